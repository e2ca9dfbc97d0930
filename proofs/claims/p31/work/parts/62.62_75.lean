/-! part 62.r1 -/
section
def wp_X11_isIn (a0 : Int32) (a1 : Int32) (a2 : Int32) (Q : Int32 → Prop) : Prop :=
  (a0 < a1 → (Q (0 : Int32))) ∧ (¬ a0 < a1 → ((a2 < a0 → (Q (0 : Int32))) ∧ (¬ a2 < a0 → (Q (1 : Int32)))))
set_option maxHeartbeats 4000000 in
set_option maxRecDepth 100000 in
theorem c_X11_isIn {l : Launch} (a0 : Int32) (a1 : Int32) (a2 : Int32) {Q : Int32 → Prop} (h : wp_X11_isIn a0 a1 a2 Q) : PMi l yX11_isIn (.code yX11_isIn cX11_isIn 3 (Option.some Jvm.ClassFile.FieldType.boolean)) 0 [.int a0, .int a1, .int a2] Q := by
  refine P_meti (by decide +kernel) (Nat.le_of_ble_eq_true rfl) ?_
  intro p e s m below meth c Z ls hx hb hml hown ht hret hl
  have hl : lv_has ls 3 [(0, .int a0), (1, .int a1), (2, .int a2)] := hl
  change (a0 < a1 → (Q (0 : Int32))) ∧ (¬ a0 < a1 → ((a2 < a0 → (Q (0 : Int32))) ∧ (¬ a2 < a0 → (Q (1 : Int32))))) at h
  refine lv_iload_n hx hb dX11_isIn_0 rfl (lv_at hl 0 rfl) ?_
  refine lv_iload_n hx hb dX11_isIn_1 rfl (lv_at hl 1 rfl) ?_
  refine lv_icmp_lt (tgt := 14) hx hb dX11_isIn_2 (by decide) (fun c1 => ?_) (fun c1 => ?_)
  · have h := h.1 c1
    refine lv_iconst (v := (0 : Int32)) hx hb dX11_isIn_14 (by decide) ?_
    exact hret ls 15 _ h rfl dX11_isIn_15
  have h := h.2 c1
  refine lv_iload_n hx hb dX11_isIn_5 rfl (lv_at hl 0 rfl) ?_
  refine lv_iload_n hx hb dX11_isIn_6 rfl (lv_at hl 2 rfl) ?_
  refine lv_icmp_gt (tgt := 14) hx hb dX11_isIn_7 (by decide) (fun c2 => ?_) (fun c2 => ?_)
  · have h := h.1 c2
    refine lv_iconst (v := (0 : Int32)) hx hb dX11_isIn_14 (by decide) ?_
    exact hret ls 15 _ h rfl dX11_isIn_15
  have h := h.2 c2
  refine lv_iconst (v := (1 : Int32)) hx hb dX11_isIn_10 (by decide) ?_
  refine lv_goto (tgt := 15) hx hb dX11_isIn_11 (by decide) ?_
  exact hret ls 15 _ h rfl dX11_isIn_15
def wp_X11_isOne (a0 : Int32) (Q : Int32 → Prop) : Prop :=
  wp_X11_isIn a0 (0 : Int32) (3 : Int32) (fun (r1 : Int32) => isB r1 ∧ Q r1)
set_option maxHeartbeats 4000000 in
set_option maxRecDepth 100000 in
theorem c_X11_isOne {l : Launch} (a0 : Int32) {Q : Int32 → Prop} (h : wp_X11_isOne a0 Q) : PMi l yX11_isOne (.code yX11_isOne cX11_isOne 1 (Option.some Jvm.ClassFile.FieldType.boolean)) 1 [.int a0] Q := by
  refine P_meti (by decide +kernel) (Nat.le_of_ble_eq_true rfl) ?_
  intro p e s m below meth c Z ls hx hb hml hown ht hret hl
  have hl : lv_has ls 1 [(0, .int a0)] := hl
  change wp_X11_isIn a0 (0 : Int32) (3 : Int32) (fun (r1 : Int32) => isB r1 ∧ Q r1) at h
  refine lv_iload_n hx hb dX11_isOne_0 rfl (lv_at hl 0 rfl) ?_
  refine lv_iconst (v := (0 : Int32)) hx hb dX11_isOne_1 (by decide) ?_
  refine lv_iconst (v := (3 : Int32)) hx hb dX11_isOne_2 (by decide) ?_
  refine P_calli (va_runS (own := "LeastreaderModel") (As := [.int a0, .int (0 : Int32), .int (3 : Int32)]) (rest := []) ⟨hx, hb, hml, hown, ht⟩ (c_X11_isIn a0 (0 : Int32) (3 : Int32) h) (va_cwS 3 ht (G_S q_1345 q_1346 q_56 q_1347) rfl rfl rfl hd_78 ⟨Nat.le_of_ble_eq_true rfl, Nat.le_of_ble_eq_true rfl⟩) ⟨PM_blind, PM_pre⟩ rfl rfl hl.1 rfl (lv_room (Nat.le_of_ble_eq_true rfl)) dX11_isOne_3 ⟨Nat.le_of_ble_eq_true rfl, Nat.le_of_ble_eq_true rfl⟩) (fun r1 h => ?_)
  obtain ⟨z2, h⟩ := h
  exact hret ls 6 _ h (isB_n z2) dX11_isOne_6
def wp_X11_isThrown (μ : TMem) (a1 : Int32) (a2 : Int32) (Q : Int32 → TMem → Prop) : Prop :=
  ∀ J1 : Int32 → Prop, (∀ (j2 : Int32), ((((tms μ 0 7 j2) 0 7) ≤ 0 → (Q (0 : Int32) (tms μ 0 7 j2))) ∧ (¬ ((tms μ 0 7 j2) 0 7) ≤ 0 → (Q (1 : Int32) (tms μ 0 7 j2)))) → J1 j2) → ((¬ a1 = 0 → ((¬ a2 = 0 → (J1 (0 : Int32))) ∧ (a2 = 0 → (J1 (2 : Int32))))) ∧ (a1 = 0 → (J1 (1 : Int32))))
set_option maxHeartbeats 4000000 in
set_option maxRecDepth 100000 in
theorem c_X11_isThrown {l : Launch} {D : va_G} {ad : Nat → Nat} {cI cL : ClassId}  (μ : TMem) (sz : Nat) (a1 : Int32) (a2 : Int32)  {Q : Int32 → TMem → Prop} (h : wp_X11_isThrown μ a1 a2 Q) : MMi l yX11_isThrown (.code yX11_isThrown cX11_isThrown 3 (Option.some Jvm.ClassFile.FieldType.boolean)) 0 0 0 [.ref (ad 0), .int a1, .int a2] D ad cI cL sz μ [] Q := by
  refine M_meti (by decide +kernel) (Nat.le_of_ble_eq_true rfl) ?_
  intro p e s m below meth c Z ls hx hb hml hown ht hK hP0 hI hne hw hret hl
  have hl : lv_has ls 3 [(0, .ref (ad 0)), (1, .int a1), (2, .int a2)] := hl
  suffices hh : ∀ (H : Heap) (locs : List Loc), MW D (MR ad cI μ) [] (MA ad s.heap.size) s H locs → W p l e (RA 0 0 0) s m #[.ref (ad 0), .int a1, .int a2] below meth c H locs 0 0 Z (F0 m 0 ls []) from hh _ _ hw
  intro H locs hw
  change ∀ J1 : Int32 → Prop, (∀ (j2 : Int32), ((((tms μ 0 7 j2) 0 7) ≤ 0 → (Q (0 : Int32) (tms μ 0 7 j2))) ∧ (¬ ((tms μ 0 7 j2) 0 7) ≤ 0 → (Q (1 : Int32) (tms μ 0 7 j2)))) → J1 j2) → ((¬ a1 = 0 → ((¬ a2 = 0 → (J1 (0 : Int32))) ∧ (a2 = 0 → (J1 (2 : Int32))))) ∧ (a1 = 0 → (J1 (1 : Int32)))) at h
  refine lv_aload_n hx hb dX11_isThrown_0 rfl (lv_at hl 0 rfl) ?_
  refine lv_iload_n hx hb dX11_isThrown_1 rfl (lv_at hl 1 rfl) ?_
  have h := h (fun (j2 : Int32) => ∀ (H : Heap) (locs : List Loc) (ls : Array Slot), MW D (MR ad cI μ) [] (MA ad s.heap.size) s H locs → lv_has ls 3 [(0, .ref (ad 0))] → W p l e (RA 0 0 0) s m #[.ref (ad 0), .int a1, .int a2] below meth c H locs 0 0 Z (F0 m 18 ls [.int j2, .ref (ad 0)])) (fun j2 h H locs ls hw hl => by
    refine m_put (i := 7) hx hb ht hown hK hw (by decide) (by decide) (ht _ q_1320) rfl rfl rfl dX11_isThrown_18 (fun H locs hw => ?_)
    refine lv_aload_n hx hb dX11_isThrown_21 rfl (lv_at hl 0 rfl) ?_
    refine m_get (i := 7) hx hb ht hown hK hw (by decide) (ht _ q_1320) rfl rfl dX11_isThrown_22 ?_
    refine lv_if_le (tgt := 32) hx hb dX11_isThrown_25 (by decide) (fun c3 => ?_) (fun c3 => ?_)
    · have h := h.1 c3
      refine lv_iconst (v := (0 : Int32)) hx hb dX11_isThrown_32 (by decide) ?_
      exact hret H locs ls 33 _ _ _ _ _ hw h rfl (show 0 ≤ 0 by omega) (show 0 ≤ 0 by omega) dX11_isThrown_33
    have h := h.2 c3
    refine lv_iconst (v := (1 : Int32)) hx hb dX11_isThrown_28 (by decide) ?_
    refine lv_goto (tgt := 33) hx hb dX11_isThrown_29 (by decide) ?_
    exact hret H locs ls 33 _ _ _ _ _ hw h rfl (show 0 ≤ 0 by omega) (show 0 ≤ 0 by omega) dX11_isThrown_33)
  refine lv_if_ne (tgt := 9) hx hb dX11_isThrown_2 (by decide) (fun c4 => ?_) (fun c4 => ?_)
  · have h := h.1 c4
    refine lv_iload_n hx hb dX11_isThrown_9 rfl (lv_at hl 2 rfl) ?_
    refine lv_if_ne (tgt := 17) hx hb dX11_isThrown_10 (by decide) (fun c5 => ?_) (fun c5 => ?_)
    · have h := h.1 c5
      refine lv_iconst (v := (0 : Int32)) hx hb dX11_isThrown_17 (by decide) ?_
      exact h H locs ls hw (lv_sub hl [0] rfl)
    have h := h.2 c5
    refine lv_iconst (v := (2 : Int32)) hx hb dX11_isThrown_13 (by decide) ?_
    refine lv_goto (tgt := 18) hx hb dX11_isThrown_14 (by decide) ?_
    exact h H locs ls hw (lv_sub hl [0] rfl)
  have h := h.2 c4
  refine lv_iconst (v := (1 : Int32)) hx hb dX11_isThrown_5 (by decide) ?_
  refine lv_goto (tgt := 18) hx hb dX11_isThrown_6 (by decide) ?_
  exact h H locs ls hw (lv_sub hl [0] rfl)
def wp_X11_isCrowded (μ : TMem) (na1 : Nat) (fa1 : Nat → Int32) (a2 : Int32) (Q : Int32 → TMem → Prop) : Prop :=
  Q (0 : Int32) (tms μ 0 7 (0 : Int32))
set_option maxHeartbeats 4000000 in
set_option maxRecDepth 100000 in
theorem c_X11_isCrowded {l : Launch} {D : va_G} {ad : Nat → Nat} {cI cL : ClassId} (qa1 : Nat) (μ : TMem) (sz : Nat) (na1 : Nat) (fa1 : Nat → Int32) (a2 : Int32)  {Q : Int32 → TMem → Prop} (h : wp_X11_isCrowded μ na1 fa1 a2 Q) : MMi l yX11_isCrowded (.code yX11_isCrowded cX11_isCrowded 3 (Option.some Jvm.ClassFile.FieldType.boolean)) 0 0 0 [.ref (ad 0), .ref qa1, .int a2] D ad cI cL sz μ [eI cI qa1 na1 fa1] Q := by
  refine M_meti (by decide +kernel) (Nat.le_of_ble_eq_true rfl) ?_
  intro p e s m below meth c Z ls hx hb hml hown ht hK hP0 hI hne hw hret hl
  have hl : lv_has ls 3 [(0, .ref (ad 0)), (1, .ref qa1), (2, .int a2)] := hl
  have hL0 := va_Ph hP0
  have hB0 : ¬ MA ad s.heap.size qa1 := fun z => z.elim (fun ⟨k, hk, e⟩ => hne 0 _ rfl k hk e) (fun z => absurd hL0.lt (Nat.not_lt.mpr z))
  suffices hh : ∀ (H : Heap) (locs : List Loc), MW D (MR ad cI μ) [] (MA ad s.heap.size) s H locs → W p l e (RA 0 0 0) s m #[.ref (ad 0), .ref qa1, .int a2] below meth c H locs 0 0 Z (F0 m 0 ls []) from hh _ _ hw
  intro H locs hw
  change Q (0 : Int32) (tms μ 0 7 (0 : Int32)) at h
  refine lv_aload_n hx hb dX11_isCrowded_0 rfl (lv_at hl 0 rfl) ?_
  refine lv_aload_n hx hb dX11_isCrowded_1 rfl (lv_at hl 1 rfl) ?_
  refine lv_ifnonnull (tgt := 9) hx hb dX11_isCrowded_2 (by decide) ?_
  refine lv_iconst (v := (0 : Int32)) hx hb dX11_isCrowded_9 (by decide) ?_
  refine m_put (i := 7) hx hb ht hown hK hw (by decide) (by decide) (ht _ q_1320) rfl rfl rfl dX11_isCrowded_10 (fun H locs hw => ?_)
  refine lv_aload_n hx hb dX11_isCrowded_13 rfl (lv_at hl 1 rfl) ?_
  refine lv_ifnonnull (tgt := 21) hx hb dX11_isCrowded_14 (by decide) ?_
  refine lv_iconst (v := (0 : Int32)) hx hb dX11_isCrowded_21 (by decide) ?_
  exact hret H locs ls 22 _ _ _ _ _ hw h rfl (show 0 ≤ 0 by omega) (show 0 ≤ 0 by omega) dX11_isCrowded_22
def wp_X11_isCrowded_n (μ : TMem) (a2 : Int32) (Q : Int32 → TMem → Prop) : Prop :=
  Q (1 : Int32) (tms μ 0 7 a2)
set_option maxHeartbeats 4000000 in
set_option maxRecDepth 100000 in
theorem c_X11_isCrowded_n {l : Launch} {D : va_G} {ad : Nat → Nat} {cI cL : ClassId}  (μ : TMem) (sz : Nat) (a2 : Int32)  {Q : Int32 → TMem → Prop} (h : wp_X11_isCrowded_n μ a2 Q) : MMi l yX11_isCrowded (.code yX11_isCrowded cX11_isCrowded 3 (Option.some Jvm.ClassFile.FieldType.boolean)) 0 0 0 [.ref (ad 0), .null, .int a2] D ad cI cL sz μ [] Q := by
  refine M_meti (by decide +kernel) (Nat.le_of_ble_eq_true rfl) ?_
  intro p e s m below meth c Z ls hx hb hml hown ht hK hP0 hI hne hw hret hl
  have hl : lv_has ls 3 [(0, .ref (ad 0)), (1, .null), (2, .int a2)] := hl
  suffices hh : ∀ (H : Heap) (locs : List Loc), MW D (MR ad cI μ) [] (MA ad s.heap.size) s H locs → W p l e (RA 0 0 0) s m #[.ref (ad 0), .null, .int a2] below meth c H locs 0 0 Z (F0 m 0 ls []) from hh _ _ hw
  intro H locs hw
  change Q (1 : Int32) (tms μ 0 7 a2) at h
  refine lv_aload_n hx hb dX11_isCrowded_0 rfl (lv_at hl 0 rfl) ?_
  refine lv_aload_nN hx hb dX11_isCrowded_1 rfl (lv_at hl 1 rfl) ?_
  refine lv_ifnonnullN hx hb dX11_isCrowded_2 ?_
  refine lv_iload_n hx hb dX11_isCrowded_5 rfl (lv_at hl 2 rfl) ?_
  refine lv_goto (tgt := 10) hx hb dX11_isCrowded_6 (by decide) ?_
  refine m_put (i := 7) hx hb ht hown hK hw (by decide) (by decide) (ht _ q_1320) rfl rfl rfl dX11_isCrowded_10 (fun H locs hw => ?_)
  refine lv_aload_nN hx hb dX11_isCrowded_13 rfl (lv_at hl 1 rfl) ?_
  refine lv_ifnonnullN hx hb dX11_isCrowded_14 ?_
  refine lv_iconst (v := (1 : Int32)) hx hb dX11_isCrowded_17 (by decide) ?_
  refine lv_goto (tgt := 22) hx hb dX11_isCrowded_18 (by decide) ?_
  exact hret H locs ls 22 _ _ _ _ _ hw h rfl (show 0 ≤ 0 by omega) (show 0 ≤ 0 by omega) dX11_isCrowded_22
def wp_X11_key (a0 : Int32) (a1 : Int32) (a2 : Int32) (Q : Int32 → Prop) : Prop :=
  Q ((((a0 * (7 : Int32)) + a1) * (3 : Int32)) + a2)
set_option maxHeartbeats 4000000 in
set_option maxRecDepth 100000 in
theorem c_X11_key {l : Launch} (a0 : Int32) (a1 : Int32) (a2 : Int32) {Q : Int32 → Prop} (h : wp_X11_key a0 a1 a2 Q) : PMi l yX11_key (.code yX11_key cX11_key 3 (Option.some Jvm.ClassFile.FieldType.int)) 0 [.int a0, .int a1, .int a2] Q := by
  refine P_meti (by decide +kernel) (Nat.le_of_ble_eq_true rfl) ?_
  intro p e s m below meth c Z ls hx hb hml hown ht hret hl
  have hl : lv_has ls 3 [(0, .int a0), (1, .int a1), (2, .int a2)] := hl
  change Q ((((a0 * (7 : Int32)) + a1) * (3 : Int32)) + a2) at h
  refine lv_iload_n hx hb dX11_key_0 rfl (lv_at hl 0 rfl) ?_
  refine lv_bipush (v := (7 : Int32)) hx hb dX11_key_1 (by decide) ?_
  refine lv_imul hx hb dX11_key_3 ?_
  refine lv_iload_n hx hb dX11_key_4 rfl (lv_at hl 1 rfl) ?_
  refine lv_iadd hx hb dX11_key_5 ?_
  refine lv_iconst (v := (3 : Int32)) hx hb dX11_key_6 (by decide) ?_
  refine lv_imul hx hb dX11_key_7 ?_
  refine lv_iload_n hx hb dX11_key_8 rfl (lv_at hl 2 rfl) ?_
  refine lv_iadd hx hb dX11_key_9 ?_
  exact hret ls 10 _ h rfl dX11_key_10
def wp_X11_isState (μ : TMem) (a1 : Int32) (a2 : Int32) (Q : Int32 → Prop) : Prop :=
  vp_in a1 (ml 1) ∧ (wp_X11_isIn a2 (0 : Int32) ((μ 1 a1.toNatClampNeg) - (1 : Int32)) (fun (r2 : Int32) => isB r2 ∧ (Q r2)))
set_option maxHeartbeats 4000000 in
set_option maxRecDepth 100000 in
theorem c_X11_isState {l : Launch} {D : va_G} {ad : Nat → Nat} {cI cL : ClassId}  (μ : TMem) (sz : Nat) (a1 : Int32) (a2 : Int32)  {Q : Int32 → Prop} (h : wp_X11_isState μ a1 a2 Q) : MMi l yX11_isState (.code yX11_isState cX11_isState 3 (Option.some Jvm.ClassFile.FieldType.boolean)) 1 0 0 [.ref (ad 0), .int a1, .int a2] D ad cI cL sz μ [] (fun r μ1 => μ1 = μ ∧ Q r) := by
  refine M_meti (by decide +kernel) (Nat.le_of_ble_eq_true rfl) ?_
  intro p e s m below meth c Z ls hx hb hml hown ht hK hP0 hI hne hw hret hl
  have hl : lv_has ls 3 [(0, .ref (ad 0)), (1, .int a1), (2, .int a2)] := hl
  suffices hh : ∀ (H : Heap) (locs : List Loc), MW D (MR ad cI μ) [] (MA ad s.heap.size) s H locs → W p l e (RA 1 0 0) s m #[.ref (ad 0), .int a1, .int a2] below meth c H locs 0 0 Z (F0 m 0 ls []) from hh _ _ hw
  intro H locs hw
  change vp_in a1 (ml 1) ∧ (wp_X11_isIn a2 (0 : Int32) ((μ 1 a1.toNatClampNeg) - (1 : Int32)) (fun (r2 : Int32) => isB r2 ∧ (Q r2))) at h
  refine lv_iload_n hx hb dX11_isState_0 rfl (lv_at hl 2 rfl) ?_
  refine lv_iconst (v := (0 : Int32)) hx hb dX11_isState_1 (by decide) ?_
  refine lv_aload_n hx hb dX11_isState_2 rfl (lv_at hl 0 rfl) ?_
  refine m_get (i := 0) hx hb ht hown hK hw (by decide) (ht _ q_1313) rfl rfl dX11_isState_3 ?_
  refine lv_iload_n hx hb dX11_isState_6 rfl (lv_at hl 1 rfl) ?_
  obtain ⟨z1, h⟩ := h
  refine m_iald hx hb hK hw (by decide) z1 dX11_isState_7 ?_
  refine lv_iconst (v := (1 : Int32)) hx hb dX11_isState_8 (by decide) ?_
  refine lv_isub hx hb dX11_isState_9 ?_
  refine P_calli (va_runS (own := "LeastreaderModel") (As := [.int a2, .int (0 : Int32), .int ((μ 1 a1.toNatClampNeg) - (1 : Int32))]) (rest := []) ⟨hx, hb, hml, hown, ht⟩ (c_X11_isIn a2 (0 : Int32) ((μ 1 a1.toNatClampNeg) - (1 : Int32)) h) (va_cwS 3 ht (G_S q_1345 q_1346 q_56 q_1347) rfl rfl rfl hd_78 ⟨Nat.le_of_ble_eq_true rfl, Nat.le_of_ble_eq_true rfl⟩) ⟨PM_blind, PM_pre⟩ rfl rfl hl.1 rfl (lv_room (Nat.le_of_ble_eq_true rfl)) dX11_isState_10 ⟨show 0 + 0 ≤ 0 by omega, show 0 + 0 ≤ 0 by omega⟩) (fun r2 h => ?_)
  obtain ⟨z3, h⟩ := h
  exact hret H locs ls 13 _ _ _ _ _ hw ⟨rfl, h⟩ (isB_n z3) (show 0 ≤ 0 by omega) (show 0 ≤ 0 by omega) dX11_isState_13
def wp_X11_did (μ : TMem) (a1 : Int32) (Q : Int32 → TMem → Prop) : Prop :=
  Q a1 (tms μ 0 4 ((μ 0 4) + (1 : Int32)))
set_option maxHeartbeats 4000000 in
set_option maxRecDepth 100000 in
theorem c_X11_did {l : Launch} {D : va_G} {ad : Nat → Nat} {cI cL : ClassId}  (μ : TMem) (sz : Nat) (a1 : Int32)  {Q : Int32 → TMem → Prop} (h : wp_X11_did μ a1 Q) : MMi l yX11_did (.code yX11_did cX11_did 2 (Option.some Jvm.ClassFile.FieldType.int)) 0 0 0 [.ref (ad 0), .int a1] D ad cI cL sz μ [] Q := by
  refine M_meti (by decide +kernel) (Nat.le_of_ble_eq_true rfl) ?_
  intro p e s m below meth c Z ls hx hb hml hown ht hK hP0 hI hne hw hret hl
  have hl : lv_has ls 2 [(0, .ref (ad 0)), (1, .int a1)] := hl
  suffices hh : ∀ (H : Heap) (locs : List Loc), MW D (MR ad cI μ) [] (MA ad s.heap.size) s H locs → W p l e (RA 0 0 0) s m #[.ref (ad 0), .int a1] below meth c H locs 0 0 Z (F0 m 0 ls []) from hh _ _ hw
  intro H locs hw
  change Q a1 (tms μ 0 4 ((μ 0 4) + (1 : Int32))) at h
  refine lv_aload_n hx hb dX11_did_0 rfl (lv_at hl 0 rfl) ?_
  refine lv_dup hx hb dX11_did_1 rfl ?_
  refine m_get (i := 4) hx hb ht hown hK hw (by decide) (ht _ q_1317) rfl rfl dX11_did_2 ?_
  refine lv_iconst (v := (1 : Int32)) hx hb dX11_did_5 (by decide) ?_
  refine lv_iadd hx hb dX11_did_6 ?_
  refine m_put (i := 4) hx hb ht hown hK hw (by decide) (by decide) (ht _ q_1317) rfl rfl rfl dX11_did_7 (fun H locs hw => ?_)
  refine lv_iload_n hx hb dX11_did_10 rfl (lv_at hl 1 rfl) ?_
  exact hret H locs ls 11 _ _ _ _ _ hw h rfl (show 0 ≤ 0 by omega) (show 0 ≤ 0 by omega) dX11_did_11
def wp_X11_refuse (μ : TMem)  (Q : Int32 → TMem → Prop) : Prop :=
  Q (-9 : Int32) (tms μ 0 5 ((μ 0 5) + (1 : Int32)))
set_option maxHeartbeats 4000000 in
set_option maxRecDepth 100000 in
theorem c_X11_refuse {l : Launch} {D : va_G} {ad : Nat → Nat} {cI cL : ClassId}  (μ : TMem) (sz : Nat)   {Q : Int32 → TMem → Prop} (h : wp_X11_refuse μ Q) : MMi l yX11_refuse (.code yX11_refuse cX11_refuse 1 (Option.some Jvm.ClassFile.FieldType.int)) 0 0 0 [.ref (ad 0)] D ad cI cL sz μ [] Q := by
  refine M_meti (by decide +kernel) (Nat.le_of_ble_eq_true rfl) ?_
  intro p e s m below meth c Z ls hx hb hml hown ht hK hP0 hI hne hw hret hl
  have hl : lv_has ls 1 [(0, .ref (ad 0))] := hl
  suffices hh : ∀ (H : Heap) (locs : List Loc), MW D (MR ad cI μ) [] (MA ad s.heap.size) s H locs → W p l e (RA 0 0 0) s m #[.ref (ad 0)] below meth c H locs 0 0 Z (F0 m 0 ls []) from hh _ _ hw
  intro H locs hw
  change Q (-9 : Int32) (tms μ 0 5 ((μ 0 5) + (1 : Int32))) at h
  refine lv_aload_n hx hb dX11_refuse_0 rfl (lv_at hl 0 rfl) ?_
  refine lv_dup hx hb dX11_refuse_1 rfl ?_
  refine m_get (i := 5) hx hb ht hown hK hw (by decide) (ht _ q_1318) rfl rfl dX11_refuse_2 ?_
  refine lv_iconst (v := (1 : Int32)) hx hb dX11_refuse_5 (by decide) ?_
  refine lv_iadd hx hb dX11_refuse_6 ?_
  refine m_put (i := 5) hx hb ht hown hK hw (by decide) (by decide) (ht _ q_1318) rfl rfl rfl dX11_refuse_7 (fun H locs hw => ?_)
  refine lv_bipush (v := (-9 : Int32)) hx hb dX11_refuse_10 (by decide) ?_
  exact hret H locs ls 12 _ _ _ _ _ hw h rfl (show 0 ≤ 0 by omega) (show 0 ≤ 0 by omega) dX11_refuse_12
def wpl_X11_arrowsOf_9 (μ : TMem) (v5 : Int32) (Q : Int32 → Prop) : Nat → Int32 → Int32 → Prop
  | 0, _, _ => False
  | n + 1, v3, v4 =>
    wp_X11_key v5 (0 : Int32) (0 : Int32) (fun (r6 : Int32) => ((r6 + (21 : Int32)) ≤ v3 → (Q v4)) ∧ (¬ (r6 + (21 : Int32)) ≤ v3 → (vp_in v3 (ml 4) ∧ (wp_J6_bitCount_0f7a4 (μ 4 v3.toNatClampNeg) (fun (r9 : Int32) => wpl_X11_arrowsOf_9 μ v5 Q n (v3 + (1 : Int32)) (v4 + r9))))))
def wp_X11_arrowsOf (μ : TMem) (a1 : Int32) (Q : Int32 → Prop) : Prop :=
  wp_X11_key a1 (0 : Int32) (0 : Int32) (fun (r1 : Int32) => ∃ n1x, wpl_X11_arrowsOf_9 μ a1 Q n1x r1 (0 : Int32))
set_option maxHeartbeats 4000000 in
set_option maxRecDepth 100000 in
theorem c_X11_arrowsOf {l : Launch} {D : va_G} {ad : Nat → Nat} {cI cL : ClassId}  (μ : TMem) (sz : Nat) (a1 : Int32)  {Q : Int32 → Prop} (h : wp_X11_arrowsOf μ a1 Q) : MMi l yX11_arrowsOf (.code yX11_arrowsOf cX11_arrowsOf 4 (Option.some Jvm.ClassFile.FieldType.int)) 1 0 0 [.ref (ad 0), .int a1] D ad cI cL sz μ [] (fun r μ1 => μ1 = μ ∧ Q r) := by
  refine M_meti (by decide +kernel) (Nat.le_of_ble_eq_true rfl) ?_
  intro p e s m below meth c Z ls hx hb hml hown ht hK hP0 hI hne hw hret hl
  have hl : lv_has ls 4 [(0, .ref (ad 0)), (1, .int a1)] := hl
  suffices hh : ∀ (H : Heap) (locs : List Loc), MW D (MR ad cI μ) [] (MA ad s.heap.size) s H locs → W p l e (RA 1 0 0) s m #[.ref (ad 0), .int a1] below meth c H locs 0 0 Z (F0 m 0 ls []) from hh _ _ hw
  intro H locs hw
  change wp_X11_key a1 (0 : Int32) (0 : Int32) (fun (r1 : Int32) => ∃ n1x, wpl_X11_arrowsOf_9 μ a1 Q n1x r1 (0 : Int32)) at h
  refine lv_iconst (v := (0 : Int32)) hx hb dX11_arrowsOf_0 (by decide) ?_
  refine lv_istore_n (lv' := [(2, .int (0 : Int32)), (0, .ref (ad 0)), (1, .int a1)]) hx hb dX11_arrowsOf_1 rfl hl (by decide) rfl (fun ls hl => ?_)
  refine lv_iload_n hx hb dX11_arrowsOf_2 rfl (lv_at hl 2 rfl) ?_
  refine lv_iconst (v := (0 : Int32)) hx hb dX11_arrowsOf_3 (by decide) ?_
  refine lv_iconst (v := (0 : Int32)) hx hb dX11_arrowsOf_4 (by decide) ?_
  refine P_calli (va_runS (own := "LeastreaderModel") (As := [.int a1, .int (0 : Int32), .int (0 : Int32)]) (rest := []) ⟨hx, hb, hml, hown, ht⟩ (c_X11_key a1 (0 : Int32) (0 : Int32) h) (va_cwS 3 ht (G_S q_1356 q_1357 q_56 q_1358) rfl rfl rfl hd_79 ⟨Nat.le_of_ble_eq_true rfl, Nat.le_of_ble_eq_true rfl⟩) ⟨PM_blind, PM_pre⟩ rfl rfl hl.1 rfl (lv_room (Nat.le_of_ble_eq_true rfl)) dX11_arrowsOf_5 ⟨show 0 + 0 ≤ 0 by omega, show 0 + 0 ≤ 0 by omega⟩) (fun r1 h => ?_)
  refine lv_istore_n (lv' := [(3, .int r1), (2, .int (0 : Int32)), (0, .ref (ad 0)), (1, .int a1)]) hx hb dX11_arrowsOf_8 rfl hl (by decide) rfl (fun ls hl => ?_)
  obtain ⟨n10, h⟩ := h
  have L1 : ∀ (v5 : Int32), ∀ (n : Nat), ∀ (v3 : Int32) (v4 : Int32), ∀ (H : Heap) (locs : List Loc) (ls : Array Slot), MW D (MR ad cI μ) [] (MA ad s.heap.size) s H locs → lv_has ls 4 [(3, .int v3), (2, .int v4), (0, .ref (ad 0)), (1, .int v5)] → wpl_X11_arrowsOf_9 μ v5 Q n v3 v4 → W p l e (RA 1 0 0) s m #[.ref (ad 0), .int a1] below meth c H locs 0 0 Z (F0 m 9 ls []) := by
    intro v5
    intro n
    induction n with
    | zero => intro v3 v4 H locs ls hw hl h; exact False.elim h
    | succ n ih1 =>
      intro v3 v4 H locs ls hw hl h
      change wp_X11_key v5 (0 : Int32) (0 : Int32) (fun (r6 : Int32) => ((r6 + (21 : Int32)) ≤ v3 → (Q v4)) ∧ (¬ (r6 + (21 : Int32)) ≤ v3 → (vp_in v3 (ml 4) ∧ (wp_J6_bitCount_0f7a4 (μ 4 v3.toNatClampNeg) (fun (r9 : Int32) => wpl_X11_arrowsOf_9 μ v5 Q n (v3 + (1 : Int32)) (v4 + r9)))))) at h
      refine lv_iload_n hx hb dX11_arrowsOf_9 rfl (lv_at hl 0 rfl) ?_
      refine lv_iload_n hx hb dX11_arrowsOf_10 rfl (lv_at hl 3 rfl) ?_
      refine lv_iconst (v := (0 : Int32)) hx hb dX11_arrowsOf_11 (by decide) ?_
      refine lv_iconst (v := (0 : Int32)) hx hb dX11_arrowsOf_12 (by decide) ?_
      refine P_calli (va_runS (own := "LeastreaderModel") (As := [.int v5, .int (0 : Int32), .int (0 : Int32)]) (rest := [.int v3]) ⟨hx, hb, hml, hown, ht⟩ (c_X11_key v5 (0 : Int32) (0 : Int32) h) (va_cwS 3 ht (G_S q_1356 q_1357 q_56 q_1358) rfl rfl rfl hd_79 ⟨Nat.le_of_ble_eq_true rfl, Nat.le_of_ble_eq_true rfl⟩) ⟨PM_blind, PM_pre⟩ rfl rfl hl.1 rfl (lv_room (Nat.le_of_ble_eq_true rfl)) dX11_arrowsOf_13 ⟨show 0 + 0 ≤ 0 by omega, show 0 + 0 ≤ 0 by omega⟩) (fun r6 h => ?_)
      refine lv_bipush (v := (21 : Int32)) hx hb dX11_arrowsOf_16 (by decide) ?_
      refine lv_iadd hx hb dX11_arrowsOf_18 ?_
      refine lv_icmp_ge (tgt := 40) hx hb dX11_arrowsOf_19 (by decide) (fun c7 => ?_) (fun c7 => ?_)
      · have h := h.1 c7
        refine lv_iload_n hx hb dX11_arrowsOf_40 rfl (lv_at hl 1 rfl) ?_
        exact hret H locs ls 41 _ _ _ _ _ hw ⟨rfl, h⟩ rfl (show 0 ≤ 0 by omega) (show 0 ≤ 0 by omega) dX11_arrowsOf_41
      have h := h.2 c7
      refine lv_iload_n hx hb dX11_arrowsOf_22 rfl (lv_at hl 1 rfl) ?_
      refine lv_aload_n hx hb dX11_arrowsOf_23 rfl (lv_at hl 2 rfl) ?_
      refine m_get (i := 3) hx hb ht hown hK hw (by decide) (ht _ q_1316) rfl rfl dX11_arrowsOf_24 ?_
      refine lv_iload_n hx hb dX11_arrowsOf_27 rfl (lv_at hl 0 rfl) ?_
      obtain ⟨z8, h⟩ := h
      refine m_iald hx hb hK hw (by decide) z8 dX11_arrowsOf_28 ?_
      refine P_calli (va_runS (own := "LeastreaderModel") (As := [.int (μ 4 v3.toNatClampNeg)]) (rest := [.int v4]) ⟨hx, hb, hml, hown, ht⟩ (c_J6_bitCount_0f7a4 (μ 4 v3.toNatClampNeg) h) (va_cwS 1 ht (G_S q_1359 q_564 q_63 q_565) rfl rfl rfl hd_33 ⟨Nat.le_of_ble_eq_true rfl, Nat.le_of_ble_eq_true rfl⟩) ⟨PM_blind, PM_pre⟩ rfl rfl hl.1 rfl (lv_room (Nat.le_of_ble_eq_true rfl)) dX11_arrowsOf_29 ⟨show 0 + 0 ≤ 0 by omega, show 0 + 0 ≤ 0 by omega⟩) (fun r9 h => ?_)
      refine lv_iadd hx hb dX11_arrowsOf_32 ?_
      refine lv_istore_n (lv' := [(2, .int (v4 + r9)), (3, .int v3), (0, .ref (ad 0)), (1, .int v5)]) hx hb dX11_arrowsOf_33 rfl hl (by decide) rfl (fun ls hl => ?_)
      refine lv_iinc (v := (v3 + (1 : Int32))) (lv' := [(3, .int (v3 + (1 : Int32))), (2, .int (v4 + r9)), (0, .ref (ad 0)), (1, .int v5)]) hx hb dX11_arrowsOf_34 hl (k := 1) rfl rfl (by decide) rfl (fun ls hl => ?_)
      refine lv_goto (tgt := 9) hx hb dX11_arrowsOf_37 (by decide) ?_
      exact ih1 (v3 + (1 : Int32)) (v4 + r9) H locs ls hw (lv_sub hl [0, 1, 2, 3] rfl) h
  exact L1 a1 n10 r1 (0 : Int32) H locs ls hw (lv_sub hl [0, 1, 2, 3] rfl) h
def wpl_X11_isPlain_34 (μ : TMem) (v14 : Int32) (v16 : Int32) (K73 : Int32 → Prop) : Nat → Int32 → Int32 → Prop
  | 0, _, _ => False
  | n + 1, v13, v15 =>
    ((3 : Int32) ≤ v13 → (K73 v15)) ∧ (¬ (3 : Int32) ≤ v13 → (wp_X11_key v16 v14 v13 (fun (r18 : Int32) => vp_in r18 (ml 4) ∧ (wp_J6_bitCount_0f7a4 (μ 4 r18.toNatClampNeg) (fun (r20 : Int32) => (¬ r20 = (1 : Int32) → (wpl_X11_isPlain_34 μ v14 v16 K73 n (v13 + (1 : Int32)) (v15 &&& (0 : Int32)))) ∧ (r20 = (1 : Int32) → (wpl_X11_isPlain_34 μ v14 v16 K73 n (v13 + (1 : Int32)) (v15 &&& (1 : Int32)))))))))
def wpl_X11_isPlain_21 (μ : TMem) (v8 : Int32) (Q : Int32 → Prop) : Nat → Int32 → Int32 → Prop
  | 0, _, _ => False
  | n + 1, v6, v7 =>
    vp_in v8 (ml 1) ∧ (((μ 1 v8.toNatClampNeg) ≤ v6 → (isB v7 ∧ (Q v7))) ∧ (¬ (μ 1 v8.toNatClampNeg) ≤ v6 → (∃ n11x, wpl_X11_isPlain_34 μ v6 v8 (fun (u23 : Int32) => wpl_X11_isPlain_21 μ v8 Q n (v6 + (1 : Int32)) u23) n11x (0 : Int32) v7)))
def wp_X11_isPlain (μ : TMem) (a1 : Int32) (Q : Int32 → Prop) : Prop :=
  vp_in a1 (ml 2) ∧ (wp_J6_bitCount_0f7a4 (μ 2 a1.toNatClampNeg) (fun (r2 : Int32) => ∀ J3 : Int32 → Prop, (∀ (j4 : Int32), (∃ n4x, wpl_X11_isPlain_21 μ a1 Q n4x (0 : Int32) j4) → J3 j4) → ((¬ r2 = (1 : Int32) → (J3 (0 : Int32))) ∧ (r2 = (1 : Int32) → (J3 (1 : Int32))))))
set_option maxHeartbeats 4000000 in
set_option maxRecDepth 100000 in
theorem c_X11_isPlain {l : Launch} {D : va_G} {ad : Nat → Nat} {cI cL : ClassId}  (μ : TMem) (sz : Nat) (a1 : Int32)  {Q : Int32 → Prop} (h : wp_X11_isPlain μ a1 Q) : MMi l yX11_isPlain (.code yX11_isPlain cX11_isPlain 5 (Option.some Jvm.ClassFile.FieldType.boolean)) 1 0 0 [.ref (ad 0), .int a1] D ad cI cL sz μ [] (fun r μ1 => μ1 = μ ∧ Q r) := by
  refine M_meti (by decide +kernel) (Nat.le_of_ble_eq_true rfl) ?_
  intro p e s m below meth c Z ls hx hb hml hown ht hK hP0 hI hne hw hret hl
  have hl : lv_has ls 5 [(0, .ref (ad 0)), (1, .int a1)] := hl
  suffices hh : ∀ (H : Heap) (locs : List Loc), MW D (MR ad cI μ) [] (MA ad s.heap.size) s H locs → W p l e (RA 1 0 0) s m #[.ref (ad 0), .int a1] below meth c H locs 0 0 Z (F0 m 0 ls []) from hh _ _ hw
  intro H locs hw
  change vp_in a1 (ml 2) ∧ (wp_J6_bitCount_0f7a4 (μ 2 a1.toNatClampNeg) (fun (r2 : Int32) => ∀ J3 : Int32 → Prop, (∀ (j4 : Int32), (∃ n4x, wpl_X11_isPlain_21 μ a1 Q n4x (0 : Int32) j4) → J3 j4) → ((¬ r2 = (1 : Int32) → (J3 (0 : Int32))) ∧ (r2 = (1 : Int32) → (J3 (1 : Int32)))))) at h
  refine lv_aload_n hx hb dX11_isPlain_0 rfl (lv_at hl 0 rfl) ?_
  refine m_get (i := 1) hx hb ht hown hK hw (by decide) (ht _ q_1314) rfl rfl dX11_isPlain_1 ?_
  refine lv_iload_n hx hb dX11_isPlain_4 rfl (lv_at hl 1 rfl) ?_
  obtain ⟨z1, h⟩ := h
  refine m_iald hx hb hK hw (by decide) z1 dX11_isPlain_5 ?_
  refine P_calli (va_runS (own := "LeastreaderModel") (As := [.int (μ 2 a1.toNatClampNeg)]) (rest := []) ⟨hx, hb, hml, hown, ht⟩ (c_J6_bitCount_0f7a4 (μ 2 a1.toNatClampNeg) h) (va_cwS 1 ht (G_S q_1359 q_564 q_63 q_565) rfl rfl rfl hd_33 ⟨Nat.le_of_ble_eq_true rfl, Nat.le_of_ble_eq_true rfl⟩) ⟨PM_blind, PM_pre⟩ rfl rfl hl.1 rfl (lv_room (Nat.le_of_ble_eq_true rfl)) dX11_isPlain_6 ⟨show 0 + 0 ≤ 0 by omega, show 0 + 0 ≤ 0 by omega⟩) (fun r2 h => ?_)
  refine lv_iconst (v := (1 : Int32)) hx hb dX11_isPlain_9 (by decide) ?_
  have h := h (fun (j4 : Int32) => ∀ (H : Heap) (locs : List Loc) (ls : Array Slot), MW D (MR ad cI μ) [] (MA ad s.heap.size) s H locs → lv_has ls 5 [(0, .ref (ad 0)), (1, .int a1)] → W p l e (RA 1 0 0) s m #[.ref (ad 0), .int a1] below meth c H locs 0 0 Z (F0 m 18 ls [.int j4])) (fun j4 h H locs ls hw hl => by
    refine lv_istore_n (lv' := [(2, .int j4), (0, .ref (ad 0)), (1, .int a1)]) hx hb dX11_isPlain_18 rfl hl (by decide) rfl (fun ls hl => ?_)
    refine lv_iconst (v := (0 : Int32)) hx hb dX11_isPlain_19 (by decide) ?_
    refine lv_istore_n (lv' := [(3, .int (0 : Int32)), (2, .int j4), (0, .ref (ad 0)), (1, .int a1)]) hx hb dX11_isPlain_20 rfl hl (by decide) rfl (fun ls hl => ?_)
    obtain ⟨n24, h⟩ := h
    have L4 : ∀ (v8 : Int32), ∀ (n : Nat), ∀ (v6 : Int32) (v7 : Int32), ∀ (H : Heap) (locs : List Loc) (ls : Array Slot), MW D (MR ad cI μ) [] (MA ad s.heap.size) s H locs → lv_has ls 5 [(3, .int v6), (2, .int v7), (0, .ref (ad 0)), (1, .int v8)] → wpl_X11_isPlain_21 μ v8 Q n v6 v7 → W p l e (RA 1 0 0) s m #[.ref (ad 0), .int a1] below meth c H locs 0 0 Z (F0 m 21 ls []) := by
      intro v8
      intro n
      induction n with
      | zero => intro v6 v7 H locs ls hw hl h; exact False.elim h
      | succ n ih4 =>
        intro v6 v7 H locs ls hw hl h
        change vp_in v8 (ml 1) ∧ (((μ 1 v8.toNatClampNeg) ≤ v6 → (isB v7 ∧ (Q v7))) ∧ (¬ (μ 1 v8.toNatClampNeg) ≤ v6 → (∃ n11x, wpl_X11_isPlain_34 μ v6 v8 (fun (u23 : Int32) => wpl_X11_isPlain_21 μ v8 Q n (v6 + (1 : Int32)) u23) n11x (0 : Int32) v7))) at h
        refine lv_iload_n hx hb dX11_isPlain_21 rfl (lv_at hl 0 rfl) ?_
        refine lv_aload_n hx hb dX11_isPlain_22 rfl (lv_at hl 2 rfl) ?_
        refine m_get (i := 0) hx hb ht hown hK hw (by decide) (ht _ q_1313) rfl rfl dX11_isPlain_23 ?_
        refine lv_iload_n hx hb dX11_isPlain_26 rfl (lv_at hl 3 rfl) ?_
        obtain ⟨z9, h⟩ := h
        refine m_iald hx hb hK hw (by decide) z9 dX11_isPlain_27 ?_
        refine lv_icmp_ge (tgt := 79) hx hb dX11_isPlain_28 (by decide) (fun c10 => ?_) (fun c10 => ?_)
        · have h := h.1 c10
          refine lv_iload_n hx hb dX11_isPlain_79 rfl (lv_at hl 1 rfl) ?_
          obtain ⟨z11, h⟩ := h
          exact hret H locs ls 80 _ _ _ _ _ hw ⟨rfl, h⟩ (isB_n z11) (show 0 ≤ 0 by omega) (show 0 ≤ 0 by omega) dX11_isPlain_80
        have h := h.2 c10
        refine lv_iconst (v := (0 : Int32)) hx hb dX11_isPlain_31 (by decide) ?_
        refine lv_istore (lv' := [(4, .int (0 : Int32)), (3, .int v6), (2, .int v7), (0, .ref (ad 0)), (1, .int v8)]) hx hb dX11_isPlain_32 hl (by decide) rfl (fun ls hl => ?_)
        obtain ⟨n22, h⟩ := h
        have L11 : ∀ (v14 : Int32) (v16 : Int32) (K73 : Int32 → Prop), (∀ (v15 : Int32), ∀ (H : Heap) (locs : List Loc) (ls : Array Slot), MW D (MR ad cI μ) [] (MA ad s.heap.size) s H locs → lv_has ls 5 [(3, .int v14), (2, .int v15), (0, .ref (ad 0)), (1, .int v16)] → K73 v15 → W p l e (RA 1 0 0) s m #[.ref (ad 0), .int a1] below meth c H locs 0 0 Z (F0 m 73 ls [])) → ∀ (n : Nat), ∀ (v13 : Int32) (v15 : Int32), ∀ (H : Heap) (locs : List Loc) (ls : Array Slot), MW D (MR ad cI μ) [] (MA ad s.heap.size) s H locs → lv_has ls 5 [(4, .int v13), (3, .int v14), (2, .int v15), (0, .ref (ad 0)), (1, .int v16)] → wpl_X11_isPlain_34 μ v14 v16 K73 n v13 v15 → W p l e (RA 1 0 0) s m #[.ref (ad 0), .int a1] below meth c H locs 0 0 Z (F0 m 34 ls []) := by
          intro v14 v16 K73 hK73
          intro n
          induction n with
          | zero => intro v13 v15 H locs ls hw hl h; exact False.elim h
          | succ n ih11 =>
            intro v13 v15 H locs ls hw hl h
            change ((3 : Int32) ≤ v13 → (K73 v15)) ∧ (¬ (3 : Int32) ≤ v13 → (wp_X11_key v16 v14 v13 (fun (r18 : Int32) => vp_in r18 (ml 4) ∧ (wp_J6_bitCount_0f7a4 (μ 4 r18.toNatClampNeg) (fun (r20 : Int32) => (¬ r20 = (1 : Int32) → (wpl_X11_isPlain_34 μ v14 v16 K73 n (v13 + (1 : Int32)) (v15 &&& (0 : Int32)))) ∧ (r20 = (1 : Int32) → (wpl_X11_isPlain_34 μ v14 v16 K73 n (v13 + (1 : Int32)) (v15 &&& (1 : Int32))))))))) at h
            refine lv_iload hx hb dX11_isPlain_34 (lv_at hl 0 rfl) ?_
            refine lv_iconst (v := (3 : Int32)) hx hb dX11_isPlain_36 (by decide) ?_
            refine lv_icmp_ge (tgt := 73) hx hb dX11_isPlain_37 (by decide) (fun c17 => ?_) (fun c17 => ?_)
            · have h := h.1 c17
              exact hK73 v15 H locs ls hw (lv_sub hl [1, 2, 3, 4] rfl) h
            have h := h.2 c17
            refine lv_iload_n hx hb dX11_isPlain_40 rfl (lv_at hl 2 rfl) ?_
            refine lv_aload_n hx hb dX11_isPlain_41 rfl (lv_at hl 3 rfl) ?_
            refine m_get (i := 3) hx hb ht hown hK hw (by decide) (ht _ q_1316) rfl rfl dX11_isPlain_42 ?_
            refine lv_iload_n hx hb dX11_isPlain_45 rfl (lv_at hl 4 rfl) ?_
            refine lv_iload_n hx hb dX11_isPlain_46 rfl (lv_at hl 1 rfl) ?_
            refine lv_iload hx hb dX11_isPlain_47 (lv_at hl 0 rfl) ?_
            refine P_calli (va_runS (own := "LeastreaderModel") (As := [.int v16, .int v14, .int v13]) (rest := [.ref (ad 4), .int v15]) ⟨hx, hb, hml, hown, ht⟩ (c_X11_key v16 v14 v13 h) (va_cwS 3 ht (G_S q_1356 q_1357 q_56 q_1358) rfl rfl rfl hd_79 ⟨Nat.le_of_ble_eq_true rfl, Nat.le_of_ble_eq_true rfl⟩) ⟨PM_blind, PM_pre⟩ rfl rfl hl.1 rfl (lv_room (Nat.le_of_ble_eq_true rfl)) dX11_isPlain_49 ⟨show 0 + 0 ≤ 0 by omega, show 0 + 0 ≤ 0 by omega⟩) (fun r18 h => ?_)
            obtain ⟨z19, h⟩ := h
            refine m_iald hx hb hK hw (by decide) z19 dX11_isPlain_52 ?_
            refine P_calli (va_runS (own := "LeastreaderModel") (As := [.int (μ 4 r18.toNatClampNeg)]) (rest := [.int v15]) ⟨hx, hb, hml, hown, ht⟩ (c_J6_bitCount_0f7a4 (μ 4 r18.toNatClampNeg) h) (va_cwS 1 ht (G_S q_1359 q_564 q_63 q_565) rfl rfl rfl hd_33 ⟨Nat.le_of_ble_eq_true rfl, Nat.le_of_ble_eq_true rfl⟩) ⟨PM_blind, PM_pre⟩ rfl rfl hl.1 rfl (lv_room (Nat.le_of_ble_eq_true rfl)) dX11_isPlain_53 ⟨show 0 + 0 ≤ 0 by omega, show 0 + 0 ≤ 0 by omega⟩) (fun r20 h => ?_)
            refine lv_iconst (v := (1 : Int32)) hx hb dX11_isPlain_56 (by decide) ?_
            refine lv_icmp_ne (tgt := 64) hx hb dX11_isPlain_57 (by decide) (fun c21 => ?_) (fun c21 => ?_)
            · have h := h.1 c21
              refine lv_iconst (v := (0 : Int32)) hx hb dX11_isPlain_64 (by decide) ?_
              refine lv_iand hx hb dX11_isPlain_65 ?_
              refine lv_istore_n (lv' := [(2, .int (v15 &&& (0 : Int32))), (4, .int v13), (3, .int v14), (0, .ref (ad 0)), (1, .int v16)]) hx hb dX11_isPlain_66 rfl hl (by decide) rfl (fun ls hl => ?_)
              refine lv_iinc (v := (v13 + (1 : Int32))) (lv' := [(4, .int (v13 + (1 : Int32))), (2, .int (v15 &&& (0 : Int32))), (3, .int v14), (0, .ref (ad 0)), (1, .int v16)]) hx hb dX11_isPlain_67 hl (k := 1) rfl rfl (by decide) rfl (fun ls hl => ?_)
              refine lv_goto (tgt := 34) hx hb dX11_isPlain_70 (by decide) ?_
              exact ih11 (v13 + (1 : Int32)) (v15 &&& (0 : Int32)) H locs ls hw (lv_sub hl [0, 2, 1, 3, 4] rfl) h
            have h := h.2 c21
            refine lv_iconst (v := (1 : Int32)) hx hb dX11_isPlain_60 (by decide) ?_
            refine lv_goto (tgt := 65) hx hb dX11_isPlain_61 (by decide) ?_
            refine lv_iand hx hb dX11_isPlain_65 ?_
            refine lv_istore_n (lv' := [(2, .int (v15 &&& (1 : Int32))), (4, .int v13), (3, .int v14), (0, .ref (ad 0)), (1, .int v16)]) hx hb dX11_isPlain_66 rfl hl (by decide) rfl (fun ls hl => ?_)
            refine lv_iinc (v := (v13 + (1 : Int32))) (lv' := [(4, .int (v13 + (1 : Int32))), (2, .int (v15 &&& (1 : Int32))), (3, .int v14), (0, .ref (ad 0)), (1, .int v16)]) hx hb dX11_isPlain_67 hl (k := 1) rfl rfl (by decide) rfl (fun ls hl => ?_)
            refine lv_goto (tgt := 34) hx hb dX11_isPlain_70 (by decide) ?_
            exact ih11 (v13 + (1 : Int32)) (v15 &&& (1 : Int32)) H locs ls hw (lv_sub hl [0, 2, 1, 3, 4] rfl) h
        refine L11 v6 v8 _ ?_ n22 (0 : Int32) v7 H locs ls hw (lv_sub hl [0, 1, 2, 3, 4] rfl) h
        intro u23 H locs ls hw hl h
        refine lv_iinc (v := (v6 + (1 : Int32))) (lv' := [(3, .int (v6 + (1 : Int32))), (2, .int u23), (0, .ref (ad 0)), (1, .int v8)]) hx hb dX11_isPlain_73 hl (k := 0) rfl rfl (by decide) rfl (fun ls hl => ?_)
        refine lv_goto (tgt := 21) hx hb dX11_isPlain_76 (by decide) ?_
        exact ih4 (v6 + (1 : Int32)) u23 H locs ls hw (lv_sub hl [0, 1, 2, 3] rfl) h
    exact L4 a1 n24 (0 : Int32) j4 H locs ls hw (lv_sub hl [0, 1, 2, 3] rfl) h)
  refine lv_icmp_ne (tgt := 17) hx hb dX11_isPlain_10 (by decide) (fun c25 => ?_) (fun c25 => ?_)
  · have h := h.1 c25
    refine lv_iconst (v := (0 : Int32)) hx hb dX11_isPlain_17 (by decide) ?_
    exact h H locs ls hw (lv_sub hl [0, 1] rfl)
  have h := h.2 c25
  refine lv_iconst (v := (1 : Int32)) hx hb dX11_isPlain_13 (by decide) ?_
  refine lv_goto (tgt := 18) hx hb dX11_isPlain_14 (by decide) ?_
  exact h H locs ls hw (lv_sub hl [0, 1] rfl)
def wpl_X11_next_15 (fa1 : Nat → Int64) (na1 : Nat) (v11 : Int32) (v13 : Int32) (v14 : Int64) (v15 : Int32) (v16 : Int32) (K98 : Int64 → Prop) : Nat → Int32 → Int64 → Prop
  | 0, _, _ => False
  | n + 1, v10, v12 =>
    (v13 ≤ v10 → (K98 v12)) ∧ (¬ v13 ≤ v10 → (∀ J18 : Int32 → Prop, (∀ (j19 : Int32), (vp_in (((3 : Int32) * j19) + v15) na1 ∧ (∀ J21 : Int32 → Prop, (∀ (j22 : Int32), (∀ J23 : Int32 → Prop, (∀ (j24 : Int32), ((j24 = 0 → (wpl_X11_next_15 fa1 na1 v11 v13 v14 v15 v16 K98 n (v10 + (1 : Int32)) v12)) ∧ (¬ j24 = 0 → ((¬ (lg_cmp ((v14 >>> (v11.toInt64 &&& 63)) &&& (1 : Int64)) (1 : Int64)) = 0 → (wpl_X11_next_15 fa1 na1 v11 v13 v14 v15 v16 K98 n (v10 + (1 : Int32)) v12)) ∧ ((lg_cmp ((v14 >>> (v11.toInt64 &&& 63)) &&& (1 : Int64)) (1 : Int64)) = 0 → (wpl_X11_next_15 fa1 na1 v11 v13 v14 v15 v16 K98 n (v10 + (1 : Int32)) (v12 ||| ((1 : Int64) <<< (v10.toInt64 &&& 63)))))))) → J23 j24) → ((¬ (lg_cmp (((fa1 (((3 : Int32) * j19) + v15).toNatClampNeg) >>> (j22.toInt64 &&& 63)) &&& (1 : Int64)) (1 : Int64)) = 0 → (J23 (0 : Int32))) ∧ ((lg_cmp (((fa1 (((3 : Int32) * j19) + v15).toNatClampNeg) >>> (j22.toInt64 &&& 63)) &&& (1 : Int64)) (1 : Int64)) = 0 → (J23 (1 : Int32))))) → J21 j22) → ((v16 = 0 → (J21 v10)) ∧ (¬ v16 = 0 → (J21 v11))))) → J18 j19) → ((v16 = 0 → (J18 v11)) ∧ (¬ v16 = 0 → (J18 v10)))))
def wpl_X11_next_6 (fa1 : Nat → Int64) (na1 : Nat) (v4 : Int32) (v5 : Int64) (v6 : Int32) (v7 : Int32) (Q : Int64 → Prop) : Nat → Int32 → Int64 → Prop
  | 0, _, _ => False
  | n + 1, v2, v3 =>
    (v4 ≤ v2 → (Q v3)) ∧ (¬ v4 ≤ v2 → (∃ n8x, wpl_X11_next_15 fa1 na1 v2 v4 v5 v6 v7 (fun (u31 : Int64) => wpl_X11_next_6 fa1 na1 v4 v5 v6 v7 Q n (v2 + (1 : Int32)) u31) n8x (0 : Int32) v3))
def wp_X11_next (na1 : Nat) (fa1 : Nat → Int64) (a2 : Int32) (a3 : Int64) (a4 : Int32) (a5 : Int32) (Q : Int64 → Prop) : Prop :=
  ∃ n0x, wpl_X11_next_6 fa1 na1 a2 a3 a4 a5 Q n0x (0 : Int32) (0 : Int64)
set_option maxHeartbeats 4000000 in
set_option maxRecDepth 100000 in
theorem c_X11_next {l : Launch} {D : va_G} {cI cL : ClassId} (qa1 : Nat)  (sz : Nat) (na1 : Nat) (fa1 : Nat → Int64) (a2 : Int32) (a3 : Int64) (a4 : Int32) (a5 : Int32)  {Q : Int64 → Prop} (h : wp_X11_next na1 fa1 a2 a3 a4 a5 Q) : SMl l yX11_next (.code yX11_next cX11_next 11 (Option.some Jvm.ClassFile.FieldType.long)) 0 0 0 [.ref qa1, .int a2, .long a3, .int a4, .int a5] D cI cL sz [eL cL qa1 na1 fa1] Q := by
  refine S_metl (by decide +kernel) (Nat.le_of_ble_eq_true rfl) ?_
  intro p e s m below meth c Z ls hx hb hml hown ht hK hP0 hw hret hl
  have hl : lv_has ls 11 [(0, .ref qa1), (1, .int a2), (2, .long a3), (4, .int a4), (5, .int a5)] := hl
  have hL0 := va_Ph hP0
  have hB0 : ¬ SA s.heap.size qa1 := fun z => absurd hL0.lt (Nat.not_lt.mpr z)
  suffices hh : ∀ (H : Heap) (locs : List Loc), MW D [] [] (SA s.heap.size) s H locs → W p l e (RA 0 0 0) s m #[.ref qa1, .int a2, .long a3, .int a4, .int a5] below meth c H locs 0 0 Z (F0 m 0 ls []) from hh _ _ hw
  intro H locs hw
  change ∃ n0x, wpl_X11_next_6 fa1 na1 a2 a3 a4 a5 Q n0x (0 : Int32) (0 : Int64) at h
  refine lv_lconst (v := (0 : Int64)) hx hb dX11_next_0 (by decide) ?_
  refine lv_lstore (lv' := [(6, .long (0 : Int64)), (0, .ref qa1), (1, .int a2), (2, .long a3), (4, .int a4), (5, .int a5)]) hx hb dX11_next_1 hl (by decide) rfl (fun ls hl => ?_)
  refine lv_iconst (v := (0 : Int32)) hx hb dX11_next_3 (by decide) ?_
  refine lv_istore (lv' := [(8, .int (0 : Int32)), (6, .long (0 : Int64)), (0, .ref qa1), (1, .int a2), (2, .long a3), (4, .int a4), (5, .int a5)]) hx hb dX11_next_4 hl (by decide) rfl (fun ls hl => ?_)
  obtain ⟨n32, h⟩ := h
  have L0 : ∀ (v4 : Int32) (v5 : Int64) (v6 : Int32) (v7 : Int32), ∀ (n : Nat), ∀ (v2 : Int32) (v3 : Int64), ∀ (H : Heap) (locs : List Loc) (ls : Array Slot), MW D [] [] (SA s.heap.size) s H locs → lv_has ls 11 [(8, .int v2), (6, .long v3), (0, .ref qa1), (1, .int v4), (2, .long v5), (4, .int v6), (5, .int v7)] → wpl_X11_next_6 fa1 na1 v4 v5 v6 v7 Q n v2 v3 → W p l e (RA 0 0 0) s m #[.ref qa1, .int a2, .long a3, .int a4, .int a5] below meth c H locs 0 0 Z (F0 m 6 ls []) := by
    intro v4 v5 v6 v7
    intro n
    induction n with
    | zero => intro v2 v3 H locs ls hw hl h; exact False.elim h
    | succ n ih0 =>
      intro v2 v3 H locs ls hw hl h
      change (v4 ≤ v2 → (Q v3)) ∧ (¬ v4 ≤ v2 → (∃ n8x, wpl_X11_next_15 fa1 na1 v2 v4 v5 v6 v7 (fun (u31 : Int64) => wpl_X11_next_6 fa1 na1 v4 v5 v6 v7 Q n (v2 + (1 : Int32)) u31) n8x (0 : Int32) v3)) at h
      refine lv_iload hx hb dX11_next_6 (lv_at hl 0 rfl) ?_
      refine lv_iload_n hx hb dX11_next_8 rfl (lv_at hl 3 rfl) ?_
      refine lv_icmp_ge (tgt := 104) hx hb dX11_next_9 (by decide) (fun c8 => ?_) (fun c8 => ?_)
      · have h := h.1 c8
        refine lv_lload hx hb dX11_next_104 (lv_at hl 1 rfl) ?_
        exact hret H locs ls 106 _ _ _ _ hw h (show 0 ≤ 0 by omega) (show 0 ≤ 0 by omega) dX11_next_106
      have h := h.2 c8
      refine lv_iconst (v := (0 : Int32)) hx hb dX11_next_12 (by decide) ?_
      refine lv_istore (lv' := [(9, .int (0 : Int32)), (8, .int v2), (6, .long v3), (0, .ref qa1), (1, .int v4), (2, .long v5), (4, .int v6), (5, .int v7)]) hx hb dX11_next_13 hl (by decide) rfl (fun ls hl => ?_)
      obtain ⟨n30, h⟩ := h
      have L8 : ∀ (v11 : Int32) (v13 : Int32) (v14 : Int64) (v15 : Int32) (v16 : Int32) (K98 : Int64 → Prop), (∀ (v12 : Int64), ∀ (H : Heap) (locs : List Loc) (ls : Array Slot), MW D [] [] (SA s.heap.size) s H locs → lv_has ls 11 [(8, .int v11), (6, .long v12), (0, .ref qa1), (1, .int v13), (2, .long v14), (4, .int v15), (5, .int v16)] → K98 v12 → W p l e (RA 0 0 0) s m #[.ref qa1, .int a2, .long a3, .int a4, .int a5] below meth c H locs 0 0 Z (F0 m 98 ls [])) → ∀ (n : Nat), ∀ (v10 : Int32) (v12 : Int64), ∀ (H : Heap) (locs : List Loc) (ls : Array Slot), MW D [] [] (SA s.heap.size) s H locs → lv_has ls 11 [(9, .int v10), (8, .int v11), (6, .long v12), (0, .ref qa1), (1, .int v13), (2, .long v14), (4, .int v15), (5, .int v16)] → wpl_X11_next_15 fa1 na1 v11 v13 v14 v15 v16 K98 n v10 v12 → W p l e (RA 0 0 0) s m #[.ref qa1, .int a2, .long a3, .int a4, .int a5] below meth c H locs 0 0 Z (F0 m 15 ls []) := by
        intro v11 v13 v14 v15 v16 K98 hK98
        intro n
        induction n with
        | zero => intro v10 v12 H locs ls hw hl h; exact False.elim h
        | succ n ih8 =>
          intro v10 v12 H locs ls hw hl h
          change (v13 ≤ v10 → (K98 v12)) ∧ (¬ v13 ≤ v10 → (∀ J18 : Int32 → Prop, (∀ (j19 : Int32), (vp_in (((3 : Int32) * j19) + v15) na1 ∧ (∀ J21 : Int32 → Prop, (∀ (j22 : Int32), (∀ J23 : Int32 → Prop, (∀ (j24 : Int32), ((j24 = 0 → (wpl_X11_next_15 fa1 na1 v11 v13 v14 v15 v16 K98 n (v10 + (1 : Int32)) v12)) ∧ (¬ j24 = 0 → ((¬ (lg_cmp ((v14 >>> (v11.toInt64 &&& 63)) &&& (1 : Int64)) (1 : Int64)) = 0 → (wpl_X11_next_15 fa1 na1 v11 v13 v14 v15 v16 K98 n (v10 + (1 : Int32)) v12)) ∧ ((lg_cmp ((v14 >>> (v11.toInt64 &&& 63)) &&& (1 : Int64)) (1 : Int64)) = 0 → (wpl_X11_next_15 fa1 na1 v11 v13 v14 v15 v16 K98 n (v10 + (1 : Int32)) (v12 ||| ((1 : Int64) <<< (v10.toInt64 &&& 63)))))))) → J23 j24) → ((¬ (lg_cmp (((fa1 (((3 : Int32) * j19) + v15).toNatClampNeg) >>> (j22.toInt64 &&& 63)) &&& (1 : Int64)) (1 : Int64)) = 0 → (J23 (0 : Int32))) ∧ ((lg_cmp (((fa1 (((3 : Int32) * j19) + v15).toNatClampNeg) >>> (j22.toInt64 &&& 63)) &&& (1 : Int64)) (1 : Int64)) = 0 → (J23 (1 : Int32))))) → J21 j22) → ((v16 = 0 → (J21 v10)) ∧ (¬ v16 = 0 → (J21 v11))))) → J18 j19) → ((v16 = 0 → (J18 v11)) ∧ (¬ v16 = 0 → (J18 v10))))) at h
          refine lv_iload hx hb dX11_next_15 (lv_at hl 0 rfl) ?_
          refine lv_iload_n hx hb dX11_next_17 rfl (lv_at hl 4 rfl) ?_
          refine lv_icmp_ge (tgt := 98) hx hb dX11_next_18 (by decide) (fun c17 => ?_) (fun c17 => ?_)
          · have h := h.1 c17
            exact hK98 v12 H locs ls hw (lv_sub hl [1, 2, 3, 4, 5, 6, 7] rfl) h
          have h := h.2 c17
          refine lv_aload_n hx hb dX11_next_21 rfl (lv_at hl 3 rfl) ?_
          refine lv_iconst (v := (3 : Int32)) hx hb dX11_next_22 (by decide) ?_
          refine lv_iload hx hb dX11_next_23 (lv_at hl 7 rfl) ?_
          have h := h (fun (j19 : Int32) => ∀ (H : Heap) (locs : List Loc) (ls : Array Slot), MW D [] [] (SA s.heap.size) s H locs → lv_has ls 11 [(9, .int v10), (8, .int v11), (6, .long v12), (0, .ref qa1), (1, .int v13), (2, .long v14), (4, .int v15), (5, .int v16)] → W p l e (RA 0 0 0) s m #[.ref qa1, .int a2, .long a3, .int a4, .int a5] below meth c H locs 0 0 Z (F0 m 35 ls [.int j19, .int (3 : Int32), .ref qa1])) (fun j19 h H locs ls hw hl => by
            refine lv_imul hx hb dX11_next_35 ?_
            refine lv_iload hx hb dX11_next_36 (lv_at hl 6 rfl) ?_
            refine lv_iadd hx hb dX11_next_38 ?_
            obtain ⟨z20, h⟩ := h
            refine n_lald hx hb hK (hw.arg hL0 hB0) z20 dX11_next_39 ?_
            refine lv_iload hx hb dX11_next_40 (lv_at hl 7 rfl) ?_
            have h := h (fun (j22 : Int32) => ∀ (H : Heap) (locs : List Loc) (ls : Array Slot), MW D [] [] (SA s.heap.size) s H locs → lv_has ls 11 [(9, .int v10), (8, .int v11), (6, .long v12), (0, .ref qa1), (1, .int v13), (2, .long v14), (4, .int v15), (5, .int v16)] → W p l e (RA 0 0 0) s m #[.ref qa1, .int a2, .long a3, .int a4, .int a5] below meth c H locs 0 0 Z (F0 m 52 ls [.int j22, .long (fa1 (((3 : Int32) * j19) + v15).toNatClampNeg)])) (fun j22 h H locs ls hw hl => by
              refine lv_lshr hx hb dX11_next_52 rfl ?_
              refine lv_lconst (v := (1 : Int64)) hx hb dX11_next_53 (by decide) ?_
              refine lv_land hx hb dX11_next_54 ?_
              refine lv_lconst (v := (1 : Int64)) hx hb dX11_next_55 (by decide) ?_
              refine W.lcmp hx hb dX11_next_56 ?_
              have h := h (fun (j24 : Int32) => ∀ (H : Heap) (locs : List Loc) (ls : Array Slot), MW D [] [] (SA s.heap.size) s H locs → lv_has ls 11 [(9, .int v10), (8, .int v11), (6, .long v12), (0, .ref qa1), (1, .int v13), (2, .long v14), (4, .int v15), (5, .int v16)] → W p l e (RA 0 0 0) s m #[.ref qa1, .int a2, .long a3, .int a4, .int a5] below meth c H locs 0 0 Z (F0 m 65 ls [.int j24])) (fun j24 h H locs ls hw hl => by
                refine lv_istore (lv' := [(10, .int j24), (9, .int v10), (8, .int v11), (6, .long v12), (0, .ref qa1), (1, .int v13), (2, .long v14), (4, .int v15), (5, .int v16)]) hx hb dX11_next_65 hl (by decide) rfl (fun ls hl => ?_)
                refine lv_iload hx hb dX11_next_67 (lv_at hl 0 rfl) ?_
                refine lv_if_eq (tgt := 92) hx hb dX11_next_69 (by decide) (fun c25 => ?_) (fun c25 => ?_)
                · have h := h.1 c25
                  refine lv_iinc (v := (v10 + (1 : Int32))) (lv' := [(9, .int (v10 + (1 : Int32))), (10, .int j24), (8, .int v11), (6, .long v12), (0, .ref qa1), (1, .int v13), (2, .long v14), (4, .int v15), (5, .int v16)]) hx hb dX11_next_92 hl (k := 1) rfl rfl (by decide) rfl (fun ls hl => ?_)
                  refine lv_goto (tgt := 15) hx hb dX11_next_95 (by decide) ?_
                  exact ih8 (v10 + (1 : Int32)) v12 H locs ls hw (lv_sub hl [0, 2, 3, 4, 5, 6, 7, 8] rfl) h
                have h := h.2 c25
                refine lv_lload_n hx hb dX11_next_72 rfl (lv_at hl 6 rfl) ?_
                refine lv_iload hx hb dX11_next_73 (lv_at hl 2 rfl) ?_
                refine lv_lshr hx hb dX11_next_75 rfl ?_
                refine lv_lconst (v := (1 : Int64)) hx hb dX11_next_76 (by decide) ?_
                refine lv_land hx hb dX11_next_77 ?_
                refine lv_lconst (v := (1 : Int64)) hx hb dX11_next_78 (by decide) ?_
                refine W.lcmp hx hb dX11_next_79 ?_
                refine lv_if_ne (tgt := 92) hx hb dX11_next_80 (by decide) (fun c26 => ?_) (fun c26 => ?_)
                · have h := h.1 c26
                  refine lv_iinc (v := (v10 + (1 : Int32))) (lv' := [(9, .int (v10 + (1 : Int32))), (10, .int j24), (8, .int v11), (6, .long v12), (0, .ref qa1), (1, .int v13), (2, .long v14), (4, .int v15), (5, .int v16)]) hx hb dX11_next_92 hl (k := 1) rfl rfl (by decide) rfl (fun ls hl => ?_)
                  refine lv_goto (tgt := 15) hx hb dX11_next_95 (by decide) ?_
                  exact ih8 (v10 + (1 : Int32)) v12 H locs ls hw (lv_sub hl [0, 2, 3, 4, 5, 6, 7, 8] rfl) h
                have h := h.2 c26
                refine lv_lload hx hb dX11_next_83 (lv_at hl 3 rfl) ?_
                refine lv_lconst (v := (1 : Int64)) hx hb dX11_next_85 (by decide) ?_
                refine lv_iload hx hb dX11_next_86 (lv_at hl 1 rfl) ?_
                refine lv_lshl hx hb dX11_next_88 rfl ?_
                refine lv_lor hx hb dX11_next_89 ?_
                refine lv_lstore (lv' := [(6, .long (v12 ||| ((1 : Int64) <<< (v10.toInt64 &&& 63)))), (10, .int j24), (9, .int v10), (8, .int v11), (0, .ref qa1), (1, .int v13), (2, .long v14), (4, .int v15), (5, .int v16)]) hx hb dX11_next_90 hl (by decide) rfl (fun ls hl => ?_)
                refine lv_iinc (v := (v10 + (1 : Int32))) (lv' := [(9, .int (v10 + (1 : Int32))), (6, .long (v12 ||| ((1 : Int64) <<< (v10.toInt64 &&& 63)))), (10, .int j24), (8, .int v11), (0, .ref qa1), (1, .int v13), (2, .long v14), (4, .int v15), (5, .int v16)]) hx hb dX11_next_92 hl (k := 2) rfl rfl (by decide) rfl (fun ls hl => ?_)
                refine lv_goto (tgt := 15) hx hb dX11_next_95 (by decide) ?_
                exact ih8 (v10 + (1 : Int32)) (v12 ||| ((1 : Int64) <<< (v10.toInt64 &&& 63))) H locs ls hw (lv_sub hl [0, 3, 1, 4, 5, 6, 7, 8] rfl) h)
              refine lv_if_ne (tgt := 64) hx hb dX11_next_57 (by decide) (fun c27 => ?_) (fun c27 => ?_)
              · have h := h.1 c27
                refine lv_iconst (v := (0 : Int32)) hx hb dX11_next_64 (by decide) ?_
                exact h H locs ls hw (lv_sub hl [0, 1, 2, 3, 4, 5, 6, 7] rfl)
              have h := h.2 c27
              refine lv_iconst (v := (1 : Int32)) hx hb dX11_next_60 (by decide) ?_
              refine lv_goto (tgt := 65) hx hb dX11_next_61 (by decide) ?_
              exact h H locs ls hw (lv_sub hl [0, 1, 2, 3, 4, 5, 6, 7] rfl))
            refine lv_if_eq (tgt := 50) hx hb dX11_next_42 (by decide) (fun c28 => ?_) (fun c28 => ?_)
            · have h := h.1 c28
              refine lv_iload hx hb dX11_next_50 (lv_at hl 0 rfl) ?_
              exact h H locs ls hw (lv_sub hl [0, 1, 2, 3, 4, 5, 6, 7] rfl)
            have h := h.2 c28
            refine lv_iload hx hb dX11_next_45 (lv_at hl 1 rfl) ?_
            refine lv_goto (tgt := 52) hx hb dX11_next_47 (by decide) ?_
            exact h H locs ls hw (lv_sub hl [0, 1, 2, 3, 4, 5, 6, 7] rfl))
          refine lv_if_eq (tgt := 33) hx hb dX11_next_25 (by decide) (fun c29 => ?_) (fun c29 => ?_)
          · have h := h.1 c29
            refine lv_iload hx hb dX11_next_33 (lv_at hl 1 rfl) ?_
            exact h H locs ls hw (lv_sub hl [0, 1, 2, 3, 4, 5, 6, 7] rfl)
          have h := h.2 c29
          refine lv_iload hx hb dX11_next_28 (lv_at hl 0 rfl) ?_
          refine lv_goto (tgt := 35) hx hb dX11_next_30 (by decide) ?_
          exact h H locs ls hw (lv_sub hl [0, 1, 2, 3, 4, 5, 6, 7] rfl)
      refine L8 v2 v4 v5 v6 v7 _ ?_ n30 (0 : Int32) v3 H locs ls hw (lv_sub hl [0, 1, 2, 3, 4, 5, 6, 7] rfl) h
      intro u31 H locs ls hw hl h
      refine lv_iinc (v := (v2 + (1 : Int32))) (lv' := [(8, .int (v2 + (1 : Int32))), (6, .long u31), (0, .ref qa1), (1, .int v4), (2, .long v5), (4, .int v6), (5, .int v7)]) hx hb dX11_next_98 hl (k := 0) rfl rfl (by decide) rfl (fun ls hl => ?_)
      refine lv_goto (tgt := 6) hx hb dX11_next_101 (by decide) ?_
      exact ih0 (v2 + (1 : Int32)) u31 H locs ls hw (lv_sub hl [0, 1, 2, 3, 4, 5, 6] rfl) h
  exact L0 a2 a3 a4 a5 n32 (0 : Int32) (0 : Int64) H locs ls hw (lv_sub hl [0, 1, 2, 3, 4, 5, 6] rfl) h
end
/-! part 63.r2 -/
section
def wpl_X11_part_6 (fa1 : Nat → Int32) (na1 : Nat) (n6 : Nat) (v5 : Int32) (Q : Nat → (Nat → Int32) → Prop) : Nat → Int32 → (Nat → Int32) → Prop
  | 0, _, _ => False
  | n + 1, v4, f7 =>
    (v5 ≤ v4 → (Q n6 f7)) ∧ (¬ v5 ≤ v4 → (vp_in v4 na1 ∧ (vp_in v4 n6 ∧ (wpl_X11_part_6 fa1 na1 n6 v5 Q n (v4 + (1 : Int32)) (upd f7 v4.toNatClampNeg (fa1 v4.toNatClampNeg))))))
def wp_X11_part (na1 : Nat) (fa1 : Nat → Int32) (a2 : Int32) (Q : Nat → (Nat → Int32) → Prop) : Prop :=
  (¬ a2 < 0 ∧ a2.toNatClampNeg ≤ 128) ∧ (∃ n2x, wpl_X11_part_6 fa1 na1 a2.toNatClampNeg a2 Q n2x (0 : Int32) (fun _ => 0))
set_option maxHeartbeats 4000000 in
set_option maxRecDepth 100000 in
theorem c_X11_part {l : Launch} {D : va_G} {cI cL : ClassId} (qa1 : Nat)  (sz : Nat) (na1 : Nat) (fa1 : Nat → Int32) (a2 : Int32)  {Q : Nat → (Nat → Int32) → Prop} (h : wp_X11_part na1 fa1 a2 Q) : SMA l yX11_part (.code yX11_part cX11_part 4 (Option.some (Jvm.ClassFile.FieldType.array Jvm.ClassFile.FieldType.int))) 0 1 128 [.ref qa1, .int a2] D cI cL sz [eI cI qa1 na1 fa1] (fun o => ∃ n f, o = some (n, f) ∧ Q n f) := by
  refine S_metA (by decide +kernel) (Nat.le_of_ble_eq_true rfl) ?_
  intro p e s m below meth c Z ls hx hb hml hown ht hK hP0 hw hret hretN hl
  have hl : lv_has ls 4 [(0, .ref qa1), (1, .int a2)] := hl
  have hL0 := va_Ph hP0
  have hB0 : ¬ SA s.heap.size qa1 := fun z => absurd hL0.lt (Nat.not_lt.mpr z)
  suffices hh : ∀ (H : Heap) (locs : List Loc), MW D [] [] (SA s.heap.size) s H locs → W p l e (RA 0 1 128) s m #[.ref qa1, .int a2] below meth c H locs 0 0 Z (F0 m 0 ls []) from hh _ _ hw
  intro H locs hw
  change (¬ a2 < 0 ∧ a2.toNatClampNeg ≤ 128) ∧ (∃ n2x, wpl_X11_part_6 fa1 na1 a2.toNatClampNeg a2 Q n2x (0 : Int32) (fun _ => 0)) at h
  refine lv_iload_n hx hb dX11_part_0 rfl (lv_at hl 1 rfl) ?_
  obtain ⟨z1, h⟩ := h
  refine n_newI (B := 128) hx hb ht q_128 hK hw z1 (by decide) (show 0 + 1 ≤ 1 by omega) (show 0 + 128 ≤ 128 by omega) dX11_part_1 (fun q2 H hq2 hw => ?_)
  have hw : MW D [] [eI cI q2 a2.toNatClampNeg (fun _ => 0)] (SA s.heap.size) s H locs := hw
  refine lv_astore_n (lv' := [(2, .ref q2), (0, .ref qa1), (1, .int a2)]) hx hb dX11_part_3 rfl hl (by decide) rfl (fun ls hl => ?_)
  refine lv_iconst (v := (0 : Int32)) hx hb dX11_part_4 (by decide) ?_
  refine lv_istore_n (lv' := [(3, .int (0 : Int32)), (2, .ref q2), (0, .ref qa1), (1, .int a2)]) hx hb dX11_part_5 rfl hl (by decide) rfl (fun ls hl => ?_)
  obtain ⟨n11, h⟩ := h
  have L2 : ∀ (n6 : Nat) (v5 : Int32), ∀ (n : Nat), ∀ (v4 : Int32) (f7 : Nat → Int32), ∀ (H : Heap) (locs : List Loc) (ls : Array Slot), MW D [] [eI cI q2 n6 f7] (SA s.heap.size) s H locs → lv_has ls 4 [(3, .int v4), (2, .ref q2), (0, .ref qa1), (1, .int v5)] → wpl_X11_part_6 fa1 na1 n6 v5 Q n v4 f7 → W p l e (RA 0 1 128) s m #[.ref qa1, .int a2] below meth c H locs 1 128 Z (F0 m 6 ls []) := by
    intro n6 v5
    intro n
    induction n with
    | zero => intro v4 f7 H locs ls hw hl h; exact False.elim h
    | succ n ih2 =>
      intro v4 f7 H locs ls hw hl h
      change (v5 ≤ v4 → (Q n6 f7)) ∧ (¬ v5 ≤ v4 → (vp_in v4 na1 ∧ (vp_in v4 n6 ∧ (wpl_X11_part_6 fa1 na1 n6 v5 Q n (v4 + (1 : Int32)) (upd f7 v4.toNatClampNeg (fa1 v4.toNatClampNeg)))))) at h
      refine lv_iload_n hx hb dX11_part_6 rfl (lv_at hl 0 rfl) ?_
      refine lv_iload_n hx hb dX11_part_7 rfl (lv_at hl 3 rfl) ?_
      refine lv_icmp_ge (tgt := 23) hx hb dX11_part_8 (by decide) (fun c8 => ?_) (fun c8 => ?_)
      · have h := h.1 c8
        refine lv_aload_n hx hb dX11_part_23 rfl (lv_at hl 1 rfl) ?_
        exact hret H locs ls 24 _ _ _ 0 _ _ _ hw rfl hq2 ⟨_, _, rfl, h⟩ (show 1 ≤ 1 by omega) (show 128 ≤ 128 by omega) dX11_part_24
      have h := h.2 c8
      refine lv_aload_n hx hb dX11_part_11 rfl (lv_at hl 1 rfl) ?_
      refine lv_iload_n hx hb dX11_part_12 rfl (lv_at hl 0 rfl) ?_
      refine lv_aload_n hx hb dX11_part_13 rfl (lv_at hl 2 rfl) ?_
      refine lv_iload_n hx hb dX11_part_14 rfl (lv_at hl 0 rfl) ?_
      obtain ⟨z9, h⟩ := h
      refine n_iald hx hb hK (hw.arg hL0 hB0) z9 dX11_part_15 ?_
      obtain ⟨z10, h⟩ := h
      refine n_iast (j := 0) hx hb hK hw rfl z10 dX11_part_16 (fun H locs hw => ?_)
      have hw : MW D [] [eI cI q2 n6 (upd f7 v4.toNatClampNeg (fa1 v4.toNatClampNeg))] (SA s.heap.size) s H locs := hw
      refine lv_iinc (v := (v4 + (1 : Int32))) (lv' := [(3, .int (v4 + (1 : Int32))), (2, .ref q2), (0, .ref qa1), (1, .int v5)]) hx hb dX11_part_17 hl (k := 0) rfl rfl (by decide) rfl (fun ls hl => ?_)
      refine lv_goto (tgt := 6) hx hb dX11_part_20 (by decide) ?_
      exact ih2 (v4 + (1 : Int32)) (upd f7 v4.toNatClampNeg (fa1 v4.toNatClampNeg)) H locs ls hw (lv_sub hl [0, 1, 2, 3] rfl) h
  exact L2 a2.toNatClampNeg a2 n11 (0 : Int32) (fun _ => 0) H locs ls hw (lv_sub hl [0, 1, 2, 3] rfl) h
def wpl_X11_oneWay_105 (fa1 : Nat → Int64) (na1 : Nat) (f35 : Nat → Int64) (n17 : Nat) (f34 : Nat → Int32) (n15 : Nat) (v41 : Int64) (v42 : Int32) (v43 : Int32) (v44 : Int32) (v45 : Int32) (v46 : Int64) (v47 : Int64) (v48 : Int32) (K129 : Int32 → Prop) : Nat → Int32 → Prop
  | 0, _ => False
  | n + 1, v40 =>
    (v44 ≤ v40 → (K129 v40)) ∧ (¬ v44 ≤ v40 → (vp_in v40 n17 ∧ (((lg_cmp (f35 v40.toNatClampNeg) v41) = 0 → (K129 v40)) ∧ (¬ (lg_cmp (f35 v40.toNatClampNeg) v41) = 0 → (wpl_X11_oneWay_105 fa1 na1 f35 n17 f34 n15 v41 v42 v43 v44 v45 v46 v47 v48 K129 n (v40 + (1 : Int32)))))))
def wpl_X11_oneWay_80 (fa1 : Nat → Int64) (na1 : Nat) (n17 : Nat) (n15 : Nat) (v28 : Int32) (v30 : Int32) (v31 : Int64) (v32 : Int64) (v33 : Int32) (K173 : Int32 → (Nat → Int64) → (Nat → Int32) → Prop) (Q : Option AI → Prop) : Nat → Int32 → Int32 → (Nat → Int64) → (Nat → Int32) → Prop
  | 0, _, _, _, _ => False
  | n + 1, v27, v29, f35, f34 =>
    ((3 : Int32) ≤ v27 → (K173 v29 f35 f34)) ∧ (¬ (3 : Int32) ≤ v27 → (vp_in v28 n17 ∧ (wp_X11_next na1 fa1 v30 (f35 v28.toNatClampNeg) v27 v33 (fun (r38 : Int64) => ∃ n38x, wpl_X11_oneWay_105 fa1 na1 f35 n17 f34 n15 r38 v27 v28 v29 v30 v31 v32 v33 (fun (u53 : Int32) => (¬ u53 = (32 : Int32) → (∀ J55 : Int32 → (Nat → Int64) → Prop, (∀ (j56 : Int32) (f57 : Nat → Int64), (vp_in (((4 : Int32) * v28) + v27) n15 ∧ (wpl_X11_oneWay_80 fa1 na1 n17 n15 v28 v30 v31 v32 v33 K173 Q n (v27 + (1 : Int32)) j56 f57 (upd f34 (((4 : Int32) * v28) + v27).toNatClampNeg u53))) → J55 j56 f57) → ((¬ u53 = v29 → (J55 v29 f35)) ∧ (u53 = v29 → (vp_in v29 n17 ∧ (J55 (v29 + (1 : Int32)) (vp_updL f35 v29.toNatClampNeg r38))))))) ∧ (u53 = (32 : Int32) → (Q none))) n38x (0 : Int32)))))
def wpl_X11_oneWay_34 (fa1 : Nat → Int64) (na1 : Nat) (n17 : Nat) (n15 : Nat) (v11 : Int32) (v12 : Int64) (v13 : Int64) (v14 : Int32) (K179 : Int32 → (Nat → Int32) → Prop) (Q : Option AI → Prop) : Nat → Int32 → Int32 → (Nat → Int32) → (Nat → Int64) → Prop
  | 0, _, _, _, _ => False
  | n + 1, v9, v10, f16, f18 =>
    (v10 ≤ v9 → (K179 v10 f16)) ∧ (¬ v10 ≤ v9 → (vp_in v9 n17 ∧ (∀ J21 : Int64 → Prop, (∀ (j22 : Int64), (∀ J23 : Int32 → Prop, (∀ (j24 : Int32), (vp_in (((4 : Int32) * v9) + (3 : Int32)) n15 ∧ (∃ n25x, wpl_X11_oneWay_80 fa1 na1 n17 n15 v9 v11 v12 v13 v14 (fun (u62 : Int32) (f63 : Nat → Int64) (f64 : Nat → Int32) => wpl_X11_oneWay_34 fa1 na1 n17 n15 v11 v12 v13 v14 K179 Q n (v9 + (1 : Int32)) u62 f64 f63) Q n25x (0 : Int32) v10 f18 (upd f16 (((4 : Int32) * v9) + (3 : Int32)).toNatClampNeg j24))) → J23 j24) → (((lg_cmp ((f18 v9.toNatClampNeg) &&& j22) (0 : Int64)) = 0 → (J23 (0 : Int32))) ∧ (¬ (lg_cmp ((f18 v9.toNatClampNeg) &&& j22) (0 : Int64)) = 0 → (J23 (1 : Int32))))) → J21 j22) → ((v14 = 0 → (J21 v13)) ∧ (¬ v14 = 0 → (J21 v12))))))
def wp_X11_oneWay (na1 : Nat) (fa1 : Nat → Int64) (a2 : Int32) (a3 : Int64) (a4 : Int64) (a5 : Int32) (Q : Option AI → Prop) : Prop :=
  (¬ (32 : Int32) < 0 ∧ (32 : Int32).toNatClampNeg ≤ 32) ∧ ((¬ (128 : Int32) < 0 ∧ (128 : Int32).toNatClampNeg ≤ 128) ∧ (∀ J5 : Int64 → Prop, (∀ (j6 : Int64), (vp_in (0 : Int32) ((32 : Int32).toNatClampNeg) ∧ (∃ n7x, wpl_X11_oneWay_34 fa1 na1 ((32 : Int32).toNatClampNeg) ((128 : Int32).toNatClampNeg) a2 a3 a4 a5 (fun (u68 : Int32) (f69 : Nat → Int32) => wp_X11_part ((128 : Int32).toNatClampNeg) f69 ((4 : Int32) * u68) (fun (n71 : Nat) (f72 : Nat → Int32) => Q (some (n71, f72)))) Q n7x (0 : Int32) (1 : Int32) (fun _ => 0) (vp_updL (fun _ => 0) (0 : Int32).toNatClampNeg j6))) → J5 j6) → ((a5 = 0 → (J5 a3)) ∧ (¬ a5 = 0 → (J5 a4)))))
set_option maxHeartbeats 4000000 in
set_option maxRecDepth 100000 in
theorem c_X11_oneWay {l : Launch} {D : va_G} {cI cL : ClassId} (qa1 : Nat)  (sz : Nat) (na1 : Nat) (fa1 : Nat → Int64) (a2 : Int32) (a3 : Int64) (a4 : Int64) (a5 : Int32)  {Q : Option AI → Prop} (h : wp_X11_oneWay na1 fa1 a2 a3 a4 a5 Q) : SMA l yX11_oneWay (.code yX11_oneWay cX11_oneWay 15 (Option.some (Jvm.ClassFile.FieldType.array Jvm.ClassFile.FieldType.int))) 1 3 288 [.ref qa1, .int a2, .long a3, .long a4, .int a5] D cI cL sz [eL cL qa1 na1 fa1] Q := by
  refine S_metA (by decide +kernel) (Nat.le_of_ble_eq_true rfl) ?_
  intro p e s m below meth c Z ls hx hb hml hown ht hK hP0 hw hret hretN hl
  have hl : lv_has ls 15 [(0, .ref qa1), (1, .int a2), (2, .long a3), (4, .long a4), (6, .int a5)] := hl
  have hL0 := va_Ph hP0
  have hB0 : ¬ SA s.heap.size qa1 := fun z => absurd hL0.lt (Nat.not_lt.mpr z)
  suffices hh : ∀ (H : Heap) (locs : List Loc), MW D [] [] (SA s.heap.size) s H locs → W p l e (RA 1 3 288) s m #[.ref qa1, .int a2, .long a3, .long a4, .int a5] below meth c H locs 0 0 Z (F0 m 0 ls []) from hh _ _ hw
  intro H locs hw
  change (¬ (32 : Int32) < 0 ∧ (32 : Int32).toNatClampNeg ≤ 32) ∧ ((¬ (128 : Int32) < 0 ∧ (128 : Int32).toNatClampNeg ≤ 128) ∧ (∀ J5 : Int64 → Prop, (∀ (j6 : Int64), (vp_in (0 : Int32) ((32 : Int32).toNatClampNeg) ∧ (∃ n7x, wpl_X11_oneWay_34 fa1 na1 ((32 : Int32).toNatClampNeg) ((128 : Int32).toNatClampNeg) a2 a3 a4 a5 (fun (u68 : Int32) (f69 : Nat → Int32) => wp_X11_part ((128 : Int32).toNatClampNeg) f69 ((4 : Int32) * u68) (fun (n71 : Nat) (f72 : Nat → Int32) => Q (some (n71, f72)))) Q n7x (0 : Int32) (1 : Int32) (fun _ => 0) (vp_updL (fun _ => 0) (0 : Int32).toNatClampNeg j6))) → J5 j6) → ((a5 = 0 → (J5 a3)) ∧ (¬ a5 = 0 → (J5 a4))))) at h
  refine lv_bipush (v := (32 : Int32)) hx hb dX11_oneWay_0 (by decide) ?_
  obtain ⟨z1, h⟩ := h
  refine n_newL (B := 32) hx hb ht q_1420 hK hw z1 (by decide) (show 0 + 1 ≤ 3 by omega) (show 0 + 32 ≤ 288 by omega) dX11_oneWay_2 (fun q2 H hq2 hw => ?_)
  have hw : MW D [] [eL cL q2 ((32 : Int32).toNatClampNeg) (fun _ => 0)] (SA s.heap.size) s H locs := hw
  refine lv_astore (lv' := [(7, .ref q2), (0, .ref qa1), (1, .int a2), (2, .long a3), (4, .long a4), (6, .int a5)]) hx hb dX11_oneWay_4 hl (by decide) rfl (fun ls hl => ?_)
  refine lv_sipush (v := (128 : Int32)) hx hb dX11_oneWay_6 (by decide) ?_
  obtain ⟨z3, h⟩ := h
  refine n_newI (B := 128) hx hb ht q_128 hK hw z3 (by decide) (show 1 + 1 ≤ 3 by omega) (show 32 + 128 ≤ 288 by omega) dX11_oneWay_9 (fun q4 H hq4 hw => ?_)
  have hw : MW D [] [eL cL q2 ((32 : Int32).toNatClampNeg) (fun _ => 0), eI cI q4 ((128 : Int32).toNatClampNeg) (fun _ => 0)] (SA s.heap.size) s H locs := hw
  refine lv_astore (lv' := [(8, .ref q4), (7, .ref q2), (0, .ref qa1), (1, .int a2), (2, .long a3), (4, .long a4), (6, .int a5)]) hx hb dX11_oneWay_11 hl (by decide) rfl (fun ls hl => ?_)
  refine lv_iconst (v := (1 : Int32)) hx hb dX11_oneWay_13 (by decide) ?_
  refine lv_istore (lv' := [(9, .int (1 : Int32)), (8, .ref q4), (7, .ref q2), (0, .ref qa1), (1, .int a2), (2, .long a3), (4, .long a4), (6, .int a5)]) hx hb dX11_oneWay_14 hl (by decide) rfl (fun ls hl => ?_)
  refine lv_aload hx hb dX11_oneWay_16 (lv_at hl 2 rfl) ?_
  refine lv_iconst (v := (0 : Int32)) hx hb dX11_oneWay_18 (by decide) ?_
  refine lv_iload hx hb dX11_oneWay_19 (lv_at hl 7 rfl) ?_
  have h := h (fun (j6 : Int64) => ∀ (H : Heap) (locs : List Loc) (ls : Array Slot), MW D [] [eL cL q2 ((32 : Int32).toNatClampNeg) (fun _ => 0), eI cI q4 ((128 : Int32).toNatClampNeg) (fun _ => 0)] (SA s.heap.size) s H locs → lv_has ls 15 [(9, .int (1 : Int32)), (8, .ref q4), (7, .ref q2), (0, .ref qa1), (1, .int a2), (2, .long a3), (4, .long a4), (6, .int a5)] → W p l e (RA 1 3 288) s m #[.ref qa1, .int a2, .long a3, .long a4, .int a5] below meth c H locs 2 160 Z (F0 m 30 ls [.long j6, .int (0 : Int32), .ref q2])) (fun j6 h H locs ls hw hl => by
    obtain ⟨z7, h⟩ := h
    refine n_last (j := 0) hx hb hK hw rfl z7 dX11_oneWay_30 (fun H locs hw => ?_)
    have hw : MW D [] [eL cL q2 ((32 : Int32).toNatClampNeg) (vp_updL (fun _ => 0) (0 : Int32).toNatClampNeg j6), eI cI q4 ((128 : Int32).toNatClampNeg) (fun _ => 0)] (SA s.heap.size) s H locs := hw
    refine lv_iconst (v := (0 : Int32)) hx hb dX11_oneWay_31 (by decide) ?_
    refine lv_istore (lv' := [(10, .int (0 : Int32)), (9, .int (1 : Int32)), (8, .ref q4), (7, .ref q2), (0, .ref qa1), (1, .int a2), (2, .long a3), (4, .long a4), (6, .int a5)]) hx hb dX11_oneWay_32 hl (by decide) rfl (fun ls hl => ?_)
    obtain ⟨n67, h⟩ := h
    have L7 : ∀ (n17 : Nat) (n15 : Nat) (v11 : Int32) (v12 : Int64) (v13 : Int64) (v14 : Int32) (K179 : Int32 → (Nat → Int32) → Prop), (∀ (v10 : Int32) (f16 : Nat → Int32), ∀ (H : Heap) (locs : List Loc) (ls : Array Slot), MW D [] [eI cI q4 n15 f16] (SA s.heap.size) s H locs → lv_has ls 15 [(9, .int v10), (8, .ref q4)] → K179 v10 f16 → W p l e (RA 1 3 288) s m #[.ref qa1, .int a2, .long a3, .long a4, .int a5] below meth c H locs 2 160 Z (F0 m 179 ls [])) → ∀ (n : Nat), ∀ (v9 : Int32) (v10 : Int32) (f16 : Nat → Int32) (f18 : Nat → Int64), ∀ (H : Heap) (locs : List Loc) (ls : Array Slot), MW D [] [eL cL q2 n17 f18, eI cI q4 n15 f16] (SA s.heap.size) s H locs → lv_has ls 15 [(10, .int v9), (9, .int v10), (8, .ref q4), (7, .ref q2), (0, .ref qa1), (1, .int v11), (2, .long v12), (4, .long v13), (6, .int v14)] → wpl_X11_oneWay_34 fa1 na1 n17 n15 v11 v12 v13 v14 K179 Q n v9 v10 f16 f18 → W p l e (RA 1 3 288) s m #[.ref qa1, .int a2, .long a3, .long a4, .int a5] below meth c H locs 2 160 Z (F0 m 34 ls []) := by
      intro n17 n15 v11 v12 v13 v14 K179 hK179
      intro n
      induction n with
      | zero => intro v9 v10 f16 f18 H locs ls hw hl h; exact False.elim h
      | succ n ih7 =>
        intro v9 v10 f16 f18 H locs ls hw hl h
        change (v10 ≤ v9 → (K179 v10 f16)) ∧ (¬ v10 ≤ v9 → (vp_in v9 n17 ∧ (∀ J21 : Int64 → Prop, (∀ (j22 : Int64), (∀ J23 : Int32 → Prop, (∀ (j24 : Int32), (vp_in (((4 : Int32) * v9) + (3 : Int32)) n15 ∧ (∃ n25x, wpl_X11_oneWay_80 fa1 na1 n17 n15 v9 v11 v12 v13 v14 (fun (u62 : Int32) (f63 : Nat → Int64) (f64 : Nat → Int32) => wpl_X11_oneWay_34 fa1 na1 n17 n15 v11 v12 v13 v14 K179 Q n (v9 + (1 : Int32)) u62 f64 f63) Q n25x (0 : Int32) v10 f18 (upd f16 (((4 : Int32) * v9) + (3 : Int32)).toNatClampNeg j24))) → J23 j24) → (((lg_cmp ((f18 v9.toNatClampNeg) &&& j22) (0 : Int64)) = 0 → (J23 (0 : Int32))) ∧ (¬ (lg_cmp ((f18 v9.toNatClampNeg) &&& j22) (0 : Int64)) = 0 → (J23 (1 : Int32))))) → J21 j22) → ((v14 = 0 → (J21 v13)) ∧ (¬ v14 = 0 → (J21 v12)))))) at h
        refine lv_iload hx hb dX11_oneWay_34 (lv_at hl 0 rfl) ?_
        refine lv_iload hx hb dX11_oneWay_36 (lv_at hl 1 rfl) ?_
        refine lv_icmp_ge (tgt := 179) hx hb dX11_oneWay_38 (by decide) (fun c19 => ?_) (fun c19 => ?_)
        · have h := h.1 c19
          exact hK179 v10 f16 H locs ls (hw.sub [1] (by decide) rfl) (lv_sub hl [1, 2] rfl) h
        have h := h.2 c19
        refine lv_aload hx hb dX11_oneWay_41 (lv_at hl 2 rfl) ?_
        refine lv_iconst (v := (4 : Int32)) hx hb dX11_oneWay_43 (by decide) ?_
        refine lv_iload hx hb dX11_oneWay_44 (lv_at hl 0 rfl) ?_
        refine lv_imul hx hb dX11_oneWay_46 ?_
        refine lv_iconst (v := (3 : Int32)) hx hb dX11_oneWay_47 (by decide) ?_
        refine lv_iadd hx hb dX11_oneWay_48 ?_
        refine lv_aload hx hb dX11_oneWay_49 (lv_at hl 3 rfl) ?_
        refine lv_iload hx hb dX11_oneWay_51 (lv_at hl 0 rfl) ?_
        obtain ⟨z20, h⟩ := h
        refine n_lald hx hb hK (hw.n (j := 0) rfl) z20 dX11_oneWay_53 ?_
        refine lv_iload hx hb dX11_oneWay_54 (lv_at hl 8 rfl) ?_
        have h := h (fun (j22 : Int64) => ∀ (H : Heap) (locs : List Loc) (ls : Array Slot), MW D [] [eL cL q2 n17 f18, eI cI q4 n15 f16] (SA s.heap.size) s H locs → lv_has ls 15 [(10, .int v9), (9, .int v10), (8, .ref q4), (7, .ref q2), (0, .ref qa1), (1, .int v11), (2, .long v12), (4, .long v13), (6, .int v14)] → W p l e (RA 1 3 288) s m #[.ref qa1, .int a2, .long a3, .long a4, .int a5] below meth c H locs 2 160 Z (F0 m 65 ls [.long j22, .long (f18 v9.toNatClampNeg), .int (((4 : Int32) * v9) + (3 : Int32)), .ref q4])) (fun j22 h H locs ls hw hl => by
          refine lv_land hx hb dX11_oneWay_65 ?_
          refine lv_lconst (v := (0 : Int64)) hx hb dX11_oneWay_66 (by decide) ?_
          refine W.lcmp hx hb dX11_oneWay_67 ?_
          have h := h (fun (j24 : Int32) => ∀ (H : Heap) (locs : List Loc) (ls : Array Slot), MW D [] [eL cL q2 n17 f18, eI cI q4 n15 f16] (SA s.heap.size) s H locs → lv_has ls 15 [(10, .int v9), (9, .int v10), (8, .ref q4), (7, .ref q2), (0, .ref qa1), (1, .int v11), (2, .long v12), (4, .long v13), (6, .int v14)] → W p l e (RA 1 3 288) s m #[.ref qa1, .int a2, .long a3, .long a4, .int a5] below meth c H locs 2 160 Z (F0 m 76 ls [.int j24, .int (((4 : Int32) * v9) + (3 : Int32)), .ref q4])) (fun j24 h H locs ls hw hl => by
            obtain ⟨z25, h⟩ := h
            refine n_iast (j := 1) hx hb hK hw rfl z25 dX11_oneWay_76 (fun H locs hw => ?_)
            have hw : MW D [] [eL cL q2 n17 f18, eI cI q4 n15 (upd f16 (((4 : Int32) * v9) + (3 : Int32)).toNatClampNeg j24)] (SA s.heap.size) s H locs := hw
            refine lv_iconst (v := (0 : Int32)) hx hb dX11_oneWay_77 (by decide) ?_
            refine lv_istore (lv' := [(11, .int (0 : Int32)), (10, .int v9), (9, .int v10), (8, .ref q4), (7, .ref q2), (0, .ref qa1), (1, .int v11), (2, .long v12), (4, .long v13), (6, .int v14)]) hx hb dX11_oneWay_78 hl (by decide) rfl (fun ls hl => ?_)
            obtain ⟨n61, h⟩ := h
            have L25 : ∀ (v28 : Int32) (v30 : Int32) (v31 : Int64) (v32 : Int64) (v33 : Int32) (K173 : Int32 → (Nat → Int64) → (Nat → Int32) → Prop), (∀ (v29 : Int32) (f35 : Nat → Int64) (f34 : Nat → Int32), ∀ (H : Heap) (locs : List Loc) (ls : Array Slot), MW D [] [eL cL q2 n17 f35, eI cI q4 n15 f34] (SA s.heap.size) s H locs → lv_has ls 15 [(10, .int v28), (9, .int v29), (8, .ref q4), (7, .ref q2), (0, .ref qa1), (1, .int v30), (2, .long v31), (4, .long v32), (6, .int v33)] → K173 v29 f35 f34 → W p l e (RA 1 3 288) s m #[.ref qa1, .int a2, .long a3, .long a4, .int a5] below meth c H locs 2 160 Z (F0 m 173 ls [])) → ∀ (n : Nat), ∀ (v27 : Int32) (v29 : Int32) (f35 : Nat → Int64) (f34 : Nat → Int32), ∀ (H : Heap) (locs : List Loc) (ls : Array Slot), MW D [] [eL cL q2 n17 f35, eI cI q4 n15 f34] (SA s.heap.size) s H locs → lv_has ls 15 [(11, .int v27), (10, .int v28), (9, .int v29), (8, .ref q4), (7, .ref q2), (0, .ref qa1), (1, .int v30), (2, .long v31), (4, .long v32), (6, .int v33)] → wpl_X11_oneWay_80 fa1 na1 n17 n15 v28 v30 v31 v32 v33 K173 Q n v27 v29 f35 f34 → W p l e (RA 1 3 288) s m #[.ref qa1, .int a2, .long a3, .long a4, .int a5] below meth c H locs 2 160 Z (F0 m 80 ls []) := by
              intro v28 v30 v31 v32 v33 K173 hK173
              intro n
              induction n with
              | zero => intro v27 v29 f35 f34 H locs ls hw hl h; exact False.elim h
              | succ n ih25 =>
                intro v27 v29 f35 f34 H locs ls hw hl h
                change ((3 : Int32) ≤ v27 → (K173 v29 f35 f34)) ∧ (¬ (3 : Int32) ≤ v27 → (vp_in v28 n17 ∧ (wp_X11_next na1 fa1 v30 (f35 v28.toNatClampNeg) v27 v33 (fun (r38 : Int64) => ∃ n38x, wpl_X11_oneWay_105 fa1 na1 f35 n17 f34 n15 r38 v27 v28 v29 v30 v31 v32 v33 (fun (u53 : Int32) => (¬ u53 = (32 : Int32) → (∀ J55 : Int32 → (Nat → Int64) → Prop, (∀ (j56 : Int32) (f57 : Nat → Int64), (vp_in (((4 : Int32) * v28) + v27) n15 ∧ (wpl_X11_oneWay_80 fa1 na1 n17 n15 v28 v30 v31 v32 v33 K173 Q n (v27 + (1 : Int32)) j56 f57 (upd f34 (((4 : Int32) * v28) + v27).toNatClampNeg u53))) → J55 j56 f57) → ((¬ u53 = v29 → (J55 v29 f35)) ∧ (u53 = v29 → (vp_in v29 n17 ∧ (J55 (v29 + (1 : Int32)) (vp_updL f35 v29.toNatClampNeg r38))))))) ∧ (u53 = (32 : Int32) → (Q none))) n38x (0 : Int32))))) at h
                refine lv_iload hx hb dX11_oneWay_80 (lv_at hl 0 rfl) ?_
                refine lv_iconst (v := (3 : Int32)) hx hb dX11_oneWay_82 (by decide) ?_
                refine lv_icmp_ge (tgt := 173) hx hb dX11_oneWay_83 (by decide) (fun c36 => ?_) (fun c36 => ?_)
                · have h := h.1 c36
                  exact hK173 v29 f35 f34 H locs ls hw (lv_sub hl [1, 2, 3, 4, 5, 6, 7, 8, 9] rfl) h
                have h := h.2 c36
                refine lv_aload_n hx hb dX11_oneWay_86 rfl (lv_at hl 5 rfl) ?_
                refine lv_iload_n hx hb dX11_oneWay_87 rfl (lv_at hl 6 rfl) ?_
                refine lv_aload hx hb dX11_oneWay_88 (lv_at hl 4 rfl) ?_
                refine lv_iload hx hb dX11_oneWay_90 (lv_at hl 1 rfl) ?_
                obtain ⟨z37, h⟩ := h
                refine n_lald hx hb hK (hw.n (j := 0) rfl) z37 dX11_oneWay_92 ?_
                refine lv_iload hx hb dX11_oneWay_93 (lv_at hl 0 rfl) ?_
                refine lv_iload hx hb dX11_oneWay_95 (lv_at hl 9 rfl) ?_
                refine S_calll hw (va_runS (own := "LeastreaderModel") (As := [.ref qa1, .int v30, .long (f35 v28.toNatClampNeg), .int v27, .int v33]) (rest := []) ⟨hx, hb, hml, hown, ht⟩ (c_X11_next qa1 H.size na1 fa1 v30 (f35 v28.toNatClampNeg) v27 v33 h) (va_cwS 5 ht (G_S q_1417 q_1418 q_56 q_1419) rfl rfl rfl hd_80 ⟨Nat.le_of_ble_eq_true rfl, Nat.le_of_ble_eq_true rfl⟩) ⟨SB.blind, SB.pre hK (va_Pc2 (hw.arg hL0 hB0) va_P0)⟩ rfl rfl hl.1 rfl (lv_room (Nat.le_of_ble_eq_true rfl)) dX11_oneWay_97 ⟨show 2 + 0 ≤ 3 by omega, show 160 + 0 ≤ 288 by omega⟩) (fun r38 H locs h hw => ?_)
                refine lv_lstore (lv' := [(12, .long r38), (11, .int v27), (10, .int v28), (9, .int v29), (8, .ref q4), (7, .ref q2), (0, .ref qa1), (1, .int v30), (2, .long v31), (4, .long v32), (6, .int v33)]) hx hb dX11_oneWay_100 hl (by decide) rfl (fun ls hl => ?_)
                refine lv_iconst (v := (0 : Int32)) hx hb dX11_oneWay_102 (by decide) ?_
                refine lv_istore (lv' := [(14, .int (0 : Int32)), (12, .long r38), (11, .int v27), (10, .int v28), (9, .int v29), (8, .ref q4), (7, .ref q2), (0, .ref qa1), (1, .int v30), (2, .long v31), (4, .long v32), (6, .int v33)]) hx hb dX11_oneWay_103 hl (by decide) rfl (fun ls hl => ?_)
                obtain ⟨n52, h⟩ := h
                have L38 : ∀ (v41 : Int64) (v42 : Int32) (v43 : Int32) (v44 : Int32) (v45 : Int32) (v46 : Int64) (v47 : Int64) (v48 : Int32) (K129 : Int32 → Prop), (∀ (v40 : Int32), ∀ (H : Heap) (locs : List Loc) (ls : Array Slot), MW D [] [eL cL q2 n17 f35, eI cI q4 n15 f34] (SA s.heap.size) s H locs → lv_has ls 15 [(14, .int v40), (12, .long v41), (11, .int v42), (10, .int v43), (9, .int v44), (8, .ref q4), (7, .ref q2), (0, .ref qa1), (1, .int v45), (2, .long v46), (4, .long v47), (6, .int v48)] → K129 v40 → W p l e (RA 1 3 288) s m #[.ref qa1, .int a2, .long a3, .long a4, .int a5] below meth c H locs 2 160 Z (F0 m 129 ls [])) → ∀ (n : Nat), ∀ (v40 : Int32), ∀ (H : Heap) (locs : List Loc) (ls : Array Slot), MW D [] [eL cL q2 n17 f35, eI cI q4 n15 f34] (SA s.heap.size) s H locs → lv_has ls 15 [(14, .int v40), (12, .long v41), (11, .int v42), (10, .int v43), (9, .int v44), (8, .ref q4), (7, .ref q2), (0, .ref qa1), (1, .int v45), (2, .long v46), (4, .long v47), (6, .int v48)] → wpl_X11_oneWay_105 fa1 na1 f35 n17 f34 n15 v41 v42 v43 v44 v45 v46 v47 v48 K129 n v40 → W p l e (RA 1 3 288) s m #[.ref qa1, .int a2, .long a3, .long a4, .int a5] below meth c H locs 2 160 Z (F0 m 105 ls []) := by
                  intro v41 v42 v43 v44 v45 v46 v47 v48 K129 hK129
                  intro n
                  induction n with
                  | zero => intro v40 H locs ls hw hl h; exact False.elim h
                  | succ n ih38 =>
                    intro v40 H locs ls hw hl h
                    change (v44 ≤ v40 → (K129 v40)) ∧ (¬ v44 ≤ v40 → (vp_in v40 n17 ∧ (((lg_cmp (f35 v40.toNatClampNeg) v41) = 0 → (K129 v40)) ∧ (¬ (lg_cmp (f35 v40.toNatClampNeg) v41) = 0 → (wpl_X11_oneWay_105 fa1 na1 f35 n17 f34 n15 v41 v42 v43 v44 v45 v46 v47 v48 K129 n (v40 + (1 : Int32))))))) at h
                    refine lv_iload hx hb dX11_oneWay_105 (lv_at hl 0 rfl) ?_
                    refine lv_iload hx hb dX11_oneWay_107 (lv_at hl 4 rfl) ?_
                    refine lv_icmp_ge (tgt := 129) hx hb dX11_oneWay_109 (by decide) (fun c49 => ?_) (fun c49 => ?_)
                    · have h := h.1 c49
                      exact hK129 v40 H locs ls hw (lv_sub hl [0, 1, 2, 3, 4, 5, 6, 7, 8, 9, 10, 11] rfl) h
                    have h := h.2 c49
                    refine lv_aload hx hb dX11_oneWay_112 (lv_at hl 6 rfl) ?_
                    refine lv_iload hx hb dX11_oneWay_114 (lv_at hl 0 rfl) ?_
                    obtain ⟨z50, h⟩ := h
                    refine n_lald hx hb hK (hw.n (j := 0) rfl) z50 dX11_oneWay_116 ?_
                    refine lv_lload hx hb dX11_oneWay_117 (lv_at hl 1 rfl) ?_
                    refine W.lcmp hx hb dX11_oneWay_119 ?_
                    refine lv_if_eq (tgt := 129) hx hb dX11_oneWay_120 (by decide) (fun c51 => ?_) (fun c51 => ?_)
                    · have h := h.1 c51
                      exact hK129 v40 H locs ls hw (lv_sub hl [0, 1, 2, 3, 4, 5, 6, 7, 8, 9, 10, 11] rfl) h
                    have h := h.2 c51
                    refine lv_iinc (v := (v40 + (1 : Int32))) (lv' := [(14, .int (v40 + (1 : Int32))), (12, .long v41), (11, .int v42), (10, .int v43), (9, .int v44), (8, .ref q4), (7, .ref q2), (0, .ref qa1), (1, .int v45), (2, .long v46), (4, .long v47), (6, .int v48)]) hx hb dX11_oneWay_123 hl (k := 0) rfl rfl (by decide) rfl (fun ls hl => ?_)
                    refine lv_goto (tgt := 105) hx hb dX11_oneWay_126 (by decide) ?_
                    exact ih38 (v40 + (1 : Int32)) H locs ls hw (lv_sub hl [0, 1, 2, 3, 4, 5, 6, 7, 8, 9, 10, 11] rfl) h
                refine L38 r38 v27 v28 v29 v30 v31 v32 v33 _ ?_ n52 (0 : Int32) H locs ls hw (lv_sub hl [0, 1, 2, 3, 4, 5, 6, 7, 8, 9, 10, 11] rfl) h
                intro u53 H locs ls hw hl h
                refine lv_iload hx hb dX11_oneWay_129 (lv_at hl 0 rfl) ?_
                refine lv_bipush (v := (32 : Int32)) hx hb dX11_oneWay_131 (by decide) ?_
                refine lv_icmp_ne (tgt := 138) hx hb dX11_oneWay_133 (by decide) (fun c54 => ?_) (fun c54 => ?_)
                · have h := h.1 c54
                  refine lv_iload hx hb dX11_oneWay_138 (lv_at hl 0 rfl) ?_
                  refine lv_iload hx hb dX11_oneWay_140 (lv_at hl 4 rfl) ?_
                  have h := h (fun (j56 : Int32) (f57 : Nat → Int64) => ∀ (H : Heap) (locs : List Loc) (ls : Array Slot), MW D [] [eL cL q2 n17 f57, eI cI q4 n15 f34] (SA s.heap.size) s H locs → lv_has ls 15 [(14, .int u53), (11, .int v27), (10, .int v28), (9, .int j56), (8, .ref q4), (7, .ref q2), (0, .ref qa1), (1, .int v30), (2, .long v31), (4, .long v32), (6, .int v33)] → W p l e (RA 1 3 288) s m #[.ref qa1, .int a2, .long a3, .long a4, .int a5] below meth c H locs 2 160 Z (F0 m 155 ls [])) (fun j56 f57 h H locs ls hw hl => by
                    refine lv_aload hx hb dX11_oneWay_155 (lv_at hl 4 rfl) ?_
                    refine lv_iconst (v := (4 : Int32)) hx hb dX11_oneWay_157 (by decide) ?_
                    refine lv_iload hx hb dX11_oneWay_158 (lv_at hl 2 rfl) ?_
                    refine lv_imul hx hb dX11_oneWay_160 ?_
                    refine lv_iload hx hb dX11_oneWay_161 (lv_at hl 1 rfl) ?_
                    refine lv_iadd hx hb dX11_oneWay_163 ?_
                    refine lv_iload hx hb dX11_oneWay_164 (lv_at hl 0 rfl) ?_
                    obtain ⟨z58, h⟩ := h
                    refine n_iast (j := 1) hx hb hK hw rfl z58 dX11_oneWay_166 (fun H locs hw => ?_)
                    have hw : MW D [] [eL cL q2 n17 f57, eI cI q4 n15 (upd f34 (((4 : Int32) * v28) + v27).toNatClampNeg u53)] (SA s.heap.size) s H locs := hw
                    refine lv_iinc (v := (v27 + (1 : Int32))) (lv' := [(11, .int (v27 + (1 : Int32))), (14, .int u53), (10, .int v28), (9, .int j56), (8, .ref q4), (7, .ref q2), (0, .ref qa1), (1, .int v30), (2, .long v31), (4, .long v32), (6, .int v33)]) hx hb dX11_oneWay_167 hl (k := 1) rfl rfl (by decide) rfl (fun ls hl => ?_)
                    refine lv_goto (tgt := 80) hx hb dX11_oneWay_170 (by decide) ?_
                    exact ih25 (v27 + (1 : Int32)) j56 f57 (upd f34 (((4 : Int32) * v28) + v27).toNatClampNeg u53) H locs ls hw (lv_sub hl [0, 2, 3, 4, 5, 6, 7, 8, 9, 10] rfl) h)
                  refine lv_icmp_ne (tgt := 155) hx hb dX11_oneWay_142 (by decide) (fun c59 => ?_) (fun c59 => ?_)
                  · have h := h.1 c59
                    exact h H locs ls hw (lv_sub hl [0, 2, 3, 4, 5, 6, 7, 8, 9, 10, 11] rfl)
                  have h := h.2 c59
                  refine lv_aload hx hb dX11_oneWay_145 (lv_at hl 6 rfl) ?_
                  refine lv_iload hx hb dX11_oneWay_147 (lv_at hl 4 rfl) ?_
                  refine lv_iinc (v := (v29 + (1 : Int32))) (lv' := [(9, .int (v29 + (1 : Int32))), (14, .int u53), (12, .long r38), (11, .int v27), (10, .int v28), (8, .ref q4), (7, .ref q2), (0, .ref qa1), (1, .int v30), (2, .long v31), (4, .long v32), (6, .int v33)]) hx hb dX11_oneWay_149 hl (k := 4) rfl rfl (by decide) rfl (fun ls hl => ?_)
                  refine lv_lload hx hb dX11_oneWay_152 (lv_at hl 2 rfl) ?_
                  obtain ⟨z60, h⟩ := h
                  refine n_last (j := 0) hx hb hK hw rfl z60 dX11_oneWay_154 (fun H locs hw => ?_)
                  have hw : MW D [] [eL cL q2 n17 (vp_updL f35 v29.toNatClampNeg r38), eI cI q4 n15 f34] (SA s.heap.size) s H locs := hw
                  exact h H locs ls hw (lv_sub hl [1, 3, 4, 0, 5, 6, 7, 8, 9, 10, 11] rfl)
                have h := h.2 c54
                refine lv_null hx hb dX11_oneWay_136 ?_
                exact hretN H locs ls 137 _ _ _ hw h (show 2 ≤ 3 by omega) (show 160 ≤ 288 by omega) dX11_oneWay_137
            refine L25 v9 v11 v12 v13 v14 _ ?_ n61 (0 : Int32) v10 f18 (upd f16 (((4 : Int32) * v9) + (3 : Int32)).toNatClampNeg j24) H locs ls hw (lv_sub hl [0, 1, 2, 3, 4, 5, 6, 7, 8, 9] rfl) h
            intro u62 f63 f64 H locs ls hw hl h
            refine lv_iinc (v := (v9 + (1 : Int32))) (lv' := [(10, .int (v9 + (1 : Int32))), (9, .int u62), (8, .ref q4), (7, .ref q2), (0, .ref qa1), (1, .int v11), (2, .long v12), (4, .long v13), (6, .int v14)]) hx hb dX11_oneWay_173 hl (k := 0) rfl rfl (by decide) rfl (fun ls hl => ?_)
            refine lv_goto (tgt := 34) hx hb dX11_oneWay_176 (by decide) ?_
            exact ih7 (v9 + (1 : Int32)) u62 f64 f63 H locs ls hw (lv_sub hl [0, 1, 2, 3, 4, 5, 6, 7, 8] rfl) h)
          refine lv_if_eq (tgt := 75) hx hb dX11_oneWay_68 (by decide) (fun c65 => ?_) (fun c65 => ?_)
          · have h := h.1 c65
            refine lv_iconst (v := (0 : Int32)) hx hb dX11_oneWay_75 (by decide) ?_
            exact h H locs ls hw (lv_sub hl [0, 1, 2, 3, 4, 5, 6, 7, 8] rfl)
          have h := h.2 c65
          refine lv_iconst (v := (1 : Int32)) hx hb dX11_oneWay_71 (by decide) ?_
          refine lv_goto (tgt := 76) hx hb dX11_oneWay_72 (by decide) ?_
          exact h H locs ls hw (lv_sub hl [0, 1, 2, 3, 4, 5, 6, 7, 8] rfl))
        refine lv_if_eq (tgt := 63) hx hb dX11_oneWay_56 (by decide) (fun c66 => ?_) (fun c66 => ?_)
        · have h := h.1 c66
          refine lv_lload hx hb dX11_oneWay_63 (lv_at hl 7 rfl) ?_
          exact h H locs ls hw (lv_sub hl [0, 1, 2, 3, 4, 5, 6, 7, 8] rfl)
        have h := h.2 c66
        refine lv_lload_n hx hb dX11_oneWay_59 rfl (lv_at hl 6 rfl) ?_
        refine lv_goto (tgt := 65) hx hb dX11_oneWay_60 (by decide) ?_
        exact h H locs ls hw (lv_sub hl [0, 1, 2, 3, 4, 5, 6, 7, 8] rfl)
    refine L7 ((32 : Int32).toNatClampNeg) ((128 : Int32).toNatClampNeg) a2 a3 a4 a5 _ ?_ n67 (0 : Int32) (1 : Int32) (fun _ => 0) (vp_updL (fun _ => 0) (0 : Int32).toNatClampNeg j6) H locs ls hw (lv_sub hl [0, 1, 2, 3, 4, 5, 6, 7, 8] rfl) h
    intro u68 f69 H locs ls hw hl h
    refine lv_aload hx hb dX11_oneWay_179 (lv_at hl 1 rfl) ?_
    refine lv_iconst (v := (4 : Int32)) hx hb dX11_oneWay_181 (by decide) ?_
    refine lv_iload hx hb dX11_oneWay_182 (lv_at hl 0 rfl) ?_
    refine lv_imul hx hb dX11_oneWay_184 ?_
    refine S_callA hw (va_runS (own := "LeastreaderModel") (As := [.ref q4, .int ((4 : Int32) * u68)]) (rest := []) ⟨hx, hb, hml, hown, ht⟩ (c_X11_part q4 H.size ((128 : Int32).toNatClampNeg) f69 ((4 : Int32) * u68) h) (va_cwS 2 ht (G_S q_1459 q_1460 q_56 q_1461) rfl rfl rfl hd_81 ⟨Nat.le_of_ble_eq_true rfl, Nat.le_of_ble_eq_true rfl⟩) ⟨SB.blind, SB.pre hK (va_Pc2 (hw.n (j := 0) rfl) va_P0)⟩ rfl rfl hl.1 rfl (lv_room (Nat.le_of_ble_eq_true rfl)) dX11_oneWay_185 ⟨show 2 + 1 ≤ 3 by omega, show 160 + 128 ≤ 288 by omega⟩) (fun _ _ h _ => by obtain ⟨_, _, h, _⟩ := h; cases h) (fun q70 n71 f72 H locs hq70 h hw => ?_)
    obtain ⟨_, _, e9, h⟩ := h
    cases e9
    have hw : MW D [] [eI cI q4 ((128 : Int32).toNatClampNeg) f69, eI cI q70 n71 f72] (SA s.heap.size) s H locs := hw
    exact hret H locs ls 188 _ _ _ 1 _ _ _ hw rfl hq70 h (show 3 ≤ 3 by omega) (show 288 ≤ 288 by omega) dX11_oneWay_188)
  refine lv_if_eq (tgt := 29) hx hb dX11_oneWay_21 (by decide) (fun c73 => ?_) (fun c73 => ?_)
  · have h := h.1 c73
    refine lv_lload_n hx hb dX11_oneWay_29 rfl (lv_at hl 5 rfl) ?_
    exact h H locs ls hw (lv_sub hl [0, 1, 2, 3, 4, 5, 6, 7] rfl)
  have h := h.2 c73
  refine lv_lload hx hb dX11_oneWay_24 (lv_at hl 6 rfl) ?_
  refine lv_goto (tgt := 30) hx hb dX11_oneWay_26 (by decide) ?_
  exact h H locs ls hw (lv_sub hl [0, 1, 2, 3, 4, 5, 6, 7] rfl)
def wpl_X11_arrowsAll_7 (μ : TMem) (n6 : Nat) (v5 : Int32) (Q : Nat → (Nat → Int64) → Prop) : Nat → Int32 → (Nat → Int64) → Prop
  | 0, _, _ => False
  | n + 1, v4, f7 =>
    ((21 : Int32) ≤ v4 → (Q n6 f7)) ∧ (¬ (21 : Int32) ≤ v4 → (wp_X11_key v5 (0 : Int32) (0 : Int32) (fun (r9 : Int32) => vp_in (r9 + v4) (ml 4) ∧ (vp_in v4 n6 ∧ (wpl_X11_arrowsAll_7 μ n6 v5 Q n (v4 + (1 : Int32)) (vp_updL f7 v4.toNatClampNeg ((μ 4 (r9 + v4).toNatClampNeg).toInt64)))))))
def wp_X11_arrowsAll (μ : TMem) (a1 : Int32) (Q : Nat → (Nat → Int64) → Prop) : Prop :=
  (¬ (21 : Int32) < 0 ∧ (21 : Int32).toNatClampNeg ≤ 21) ∧ (∃ n2x, wpl_X11_arrowsAll_7 μ ((21 : Int32).toNatClampNeg) a1 Q n2x (0 : Int32) (fun _ => 0))
set_option maxHeartbeats 4000000 in
set_option maxRecDepth 100000 in
theorem c_X11_arrowsAll {l : Launch} {D : va_G} {ad : Nat → Nat} {cI cL : ClassId}  (μ : TMem) (sz : Nat) (a1 : Int32)  {Q : Nat → (Nat → Int64) → Prop} (h : wp_X11_arrowsAll μ a1 Q) : MML l yX11_arrowsAll (.code yX11_arrowsAll cX11_arrowsAll 4 (Option.some (Jvm.ClassFile.FieldType.array Jvm.ClassFile.FieldType.long))) 1 1 21 [.ref (ad 0), .int a1] D ad cI cL sz μ [] (fun o μ1 => μ1 = μ ∧ Q o.1 o.2) := by
  refine M_metL (by decide +kernel) (Nat.le_of_ble_eq_true rfl) ?_
  intro p e s m below meth c Z ls hx hb hml hown ht hK hP0 hI hne hw hret hl
  have hl : lv_has ls 4 [(0, .ref (ad 0)), (1, .int a1)] := hl
  suffices hh : ∀ (H : Heap) (locs : List Loc), MW D (MR ad cI μ) [] (MA ad s.heap.size) s H locs → W p l e (RA 1 1 21) s m #[.ref (ad 0), .int a1] below meth c H locs 0 0 Z (F0 m 0 ls []) from hh _ _ hw
  intro H locs hw
  change (¬ (21 : Int32) < 0 ∧ (21 : Int32).toNatClampNeg ≤ 21) ∧ (∃ n2x, wpl_X11_arrowsAll_7 μ ((21 : Int32).toNatClampNeg) a1 Q n2x (0 : Int32) (fun _ => 0)) at h
  refine lv_bipush (v := (21 : Int32)) hx hb dX11_arrowsAll_0 (by decide) ?_
  obtain ⟨z1, h⟩ := h
  refine n_newL (B := 21) hx hb ht q_1420 hK hw z1 (by decide) (show 0 + 1 ≤ 1 by omega) (show 0 + 21 ≤ 21 by omega) dX11_arrowsAll_2 (fun q2 H hq2 hw => ?_)
  have hw : MW D (MR ad cI μ) [eL cL q2 ((21 : Int32).toNatClampNeg) (fun _ => 0)] (MA ad s.heap.size) s H locs := hw
  refine lv_astore_n (lv' := [(2, .ref q2), (0, .ref (ad 0)), (1, .int a1)]) hx hb dX11_arrowsAll_4 rfl hl (by decide) rfl (fun ls hl => ?_)
  refine lv_iconst (v := (0 : Int32)) hx hb dX11_arrowsAll_5 (by decide) ?_
  refine lv_istore_n (lv' := [(3, .int (0 : Int32)), (2, .ref q2), (0, .ref (ad 0)), (1, .int a1)]) hx hb dX11_arrowsAll_6 rfl hl (by decide) rfl (fun ls hl => ?_)
  obtain ⟨n12, h⟩ := h
  have L2 : ∀ (n6 : Nat) (v5 : Int32), ∀ (n : Nat), ∀ (v4 : Int32) (f7 : Nat → Int64), ∀ (H : Heap) (locs : List Loc) (ls : Array Slot), MW D (MR ad cI μ) [eL cL q2 n6 f7] (MA ad s.heap.size) s H locs → lv_has ls 4 [(3, .int v4), (2, .ref q2), (0, .ref (ad 0)), (1, .int v5)] → wpl_X11_arrowsAll_7 μ n6 v5 Q n v4 f7 → W p l e (RA 1 1 21) s m #[.ref (ad 0), .int a1] below meth c H locs 1 21 Z (F0 m 7 ls []) := by
    intro n6 v5
    intro n
    induction n with
    | zero => intro v4 f7 H locs ls hw hl h; exact False.elim h
    | succ n ih2 =>
      intro v4 f7 H locs ls hw hl h
      change ((21 : Int32) ≤ v4 → (Q n6 f7)) ∧ (¬ (21 : Int32) ≤ v4 → (wp_X11_key v5 (0 : Int32) (0 : Int32) (fun (r9 : Int32) => vp_in (r9 + v4) (ml 4) ∧ (vp_in v4 n6 ∧ (wpl_X11_arrowsAll_7 μ n6 v5 Q n (v4 + (1 : Int32)) (vp_updL f7 v4.toNatClampNeg ((μ 4 (r9 + v4).toNatClampNeg).toInt64))))))) at h
      refine lv_iload_n hx hb dX11_arrowsAll_7 rfl (lv_at hl 0 rfl) ?_
      refine lv_bipush (v := (21 : Int32)) hx hb dX11_arrowsAll_8 (by decide) ?_
      refine lv_icmp_ge (tgt := 36) hx hb dX11_arrowsAll_10 (by decide) (fun c8 => ?_) (fun c8 => ?_)
      · have h := h.1 c8
        refine lv_aload_n hx hb dX11_arrowsAll_36 rfl (lv_at hl 1 rfl) ?_
        exact hret H locs ls 37 _ _ _ 0 _ _ _ _ hw rfl hq2 ⟨rfl, h⟩ (show 1 ≤ 1 by omega) (show 21 ≤ 21 by omega) dX11_arrowsAll_37
      have h := h.2 c8
      refine lv_aload_n hx hb dX11_arrowsAll_13 rfl (lv_at hl 1 rfl) ?_
      refine lv_iload_n hx hb dX11_arrowsAll_14 rfl (lv_at hl 0 rfl) ?_
      refine lv_aload_n hx hb dX11_arrowsAll_15 rfl (lv_at hl 2 rfl) ?_
      refine m_get (i := 3) hx hb ht hown hK hw (by decide) (ht _ q_1316) rfl rfl dX11_arrowsAll_16 ?_
      refine lv_iload_n hx hb dX11_arrowsAll_19 rfl (lv_at hl 3 rfl) ?_
      refine lv_iconst (v := (0 : Int32)) hx hb dX11_arrowsAll_20 (by decide) ?_
      refine lv_iconst (v := (0 : Int32)) hx hb dX11_arrowsAll_21 (by decide) ?_
      refine P_calli (va_runS (own := "LeastreaderModel") (As := [.int v5, .int (0 : Int32), .int (0 : Int32)]) (rest := [.ref (ad 4), .int v4, .ref q2]) ⟨hx, hb, hml, hown, ht⟩ (c_X11_key v5 (0 : Int32) (0 : Int32) h) (va_cwS 3 ht (G_S q_1356 q_1357 q_56 q_1358) rfl rfl rfl hd_79 ⟨Nat.le_of_ble_eq_true rfl, Nat.le_of_ble_eq_true rfl⟩) ⟨PM_blind, PM_pre⟩ rfl rfl hl.1 rfl (lv_room (Nat.le_of_ble_eq_true rfl)) dX11_arrowsAll_22 ⟨show 1 + 0 ≤ 1 by omega, show 21 + 0 ≤ 21 by omega⟩) (fun r9 h => ?_)
      refine lv_iload_n hx hb dX11_arrowsAll_25 rfl (lv_at hl 0 rfl) ?_
      refine lv_iadd hx hb dX11_arrowsAll_26 ?_
      obtain ⟨z10, h⟩ := h
      refine m_iald hx hb hK hw (by decide) z10 dX11_arrowsAll_27 ?_
      refine lv_i2l hx hb dX11_arrowsAll_28 rfl ?_
      obtain ⟨z11, h⟩ := h
      refine n_last (j := 0) hx hb hK hw rfl z11 dX11_arrowsAll_29 (fun H locs hw => ?_)
      have hw : MW D (MR ad cI μ) [eL cL q2 n6 (vp_updL f7 v4.toNatClampNeg ((μ 4 (r9 + v4).toNatClampNeg).toInt64))] (MA ad s.heap.size) s H locs := hw
      refine lv_iinc (v := (v4 + (1 : Int32))) (lv' := [(3, .int (v4 + (1 : Int32))), (2, .ref q2), (0, .ref (ad 0)), (1, .int v5)]) hx hb dX11_arrowsAll_30 hl (k := 0) rfl rfl (by decide) rfl (fun ls hl => ?_)
      refine lv_goto (tgt := 7) hx hb dX11_arrowsAll_33 (by decide) ?_
      exact ih2 (v4 + (1 : Int32)) (vp_updL f7 v4.toNatClampNeg ((μ 4 (r9 + v4).toNatClampNeg).toInt64)) H locs ls hw (lv_sub hl [0, 1, 2, 3] rfl) h
  exact L2 ((21 : Int32).toNatClampNeg) a1 n12 (0 : Int32) (fun _ => 0) H locs ls hw (lv_sub hl [0, 1, 2, 3] rfl) h
def wp_X11_oneWay_ (μ : TMem) (a1 : Int32) (Q : Option AI → Prop) : Prop :=
  wp_X11_arrowsAll μ a1 (fun (n4 : Nat) (f5 : Nat → Int64) => vp_in a1 (ml 1) ∧ (vp_in a1 (ml 2) ∧ (vp_in a1 (ml 3) ∧ (wp_X11_oneWay n4 f5 (μ 1 a1.toNatClampNeg) ((μ 2 a1.toNatClampNeg).toInt64) ((μ 3 a1.toNatClampNeg).toInt64) (0 : Int32) (fun (r12 : Option AI) => (r12 = none → (Q none)) ∧ (∀ (n10 : Nat) (f11 : Nat → Int32), r12 = some (n10, f11) → (Q (some (n10, f11)))))))))
set_option maxHeartbeats 4000000 in
set_option maxRecDepth 100000 in
theorem c_X11_oneWay_ {l : Launch} {D : va_G} {ad : Nat → Nat} {cI cL : ClassId}  (μ : TMem) (sz : Nat) (a1 : Int32)  {Q : Option AI → Prop} (h : wp_X11_oneWay_ μ a1 Q) : MMA l yX11_oneWay_ (.code yX11_oneWay_ cX11_oneWay_ 2 (Option.some (Jvm.ClassFile.FieldType.array Jvm.ClassFile.FieldType.int))) 2 4 309 [.ref (ad 0), .int a1] D ad cI cL sz μ [] (fun o μ1 => μ1 = μ ∧ Q o) := by
  refine M_metA (by decide +kernel) (Nat.le_of_ble_eq_true rfl) ?_
  intro p e s m below meth c Z ls hx hb hml hown ht hK hP0 hI hne hw hret hretN hl
  have hl : lv_has ls 2 [(0, .ref (ad 0)), (1, .int a1)] := hl
  suffices hh : ∀ (H : Heap) (locs : List Loc), MW D (MR ad cI μ) [] (MA ad s.heap.size) s H locs → W p l e (RA 2 4 309) s m #[.ref (ad 0), .int a1] below meth c H locs 0 0 Z (F0 m 0 ls []) from hh _ _ hw
  intro H locs hw
  change wp_X11_arrowsAll μ a1 (fun (n4 : Nat) (f5 : Nat → Int64) => vp_in a1 (ml 1) ∧ (vp_in a1 (ml 2) ∧ (vp_in a1 (ml 3) ∧ (wp_X11_oneWay n4 f5 (μ 1 a1.toNatClampNeg) ((μ 2 a1.toNatClampNeg).toInt64) ((μ 3 a1.toNatClampNeg).toInt64) (0 : Int32) (fun (r12 : Option AI) => (r12 = none → (Q none)) ∧ (∀ (n10 : Nat) (f11 : Nat → Int32), r12 = some (n10, f11) → (Q (some (n10, f11))))))))) at h
  refine lv_aload_n hx hb dX11_oneWay__0 rfl (lv_at hl 0 rfl) ?_
  refine lv_iload_n hx hb dX11_oneWay__1 rfl (lv_at hl 1 rfl) ?_
  refine M_callL hw (MA.up hw.2.2.1.1) (va_runV (own := "LeastreaderModel") (As := [.int a1]) (rest := []) ⟨hx, hb, hml, hown, ht⟩ (c_X11_arrowsAll μ H.size a1 h) (cwV 1 ht (G_V q_1413 q_1415 q_33 q_56 q_1416) rfl rfl rfl ⟨rfl, hd_82⟩ ⟨Nat.le_of_ble_eq_true rfl, Nat.le_of_ble_eq_true rfl⟩) ⟨MB.blind, M_recv hK hw, MB.pre hK hI hw va_P0 ne0⟩ rfl rfl hl.1 rfl (lv_room (Nat.le_of_ble_eq_true rfl)) dX11_oneWay__2 ⟨show 0 + 1 ≤ 4 by omega, show 0 + 21 ≤ 309 by omega⟩) (fun q3 n4 f5 μ1 H locs hq3 h hw => ?_)
  obtain ⟨e2, h⟩ := h
  rw [e2] at hw
  have hw : MW D (MR ad cI μ) [eL cL q3 n4 f5] (MA ad s.heap.size) s H locs := hw
  refine lv_aload_n hx hb dX11_oneWay__5 rfl (lv_at hl 0 rfl) ?_
  refine m_get (i := 0) hx hb ht hown hK hw (by decide) (ht _ q_1313) rfl rfl dX11_oneWay__6 ?_
  refine lv_iload_n hx hb dX11_oneWay__9 rfl (lv_at hl 1 rfl) ?_
  obtain ⟨z6, h⟩ := h
  refine m_iald hx hb hK hw (by decide) z6 dX11_oneWay__10 ?_
  refine lv_aload_n hx hb dX11_oneWay__11 rfl (lv_at hl 0 rfl) ?_
  refine m_get (i := 1) hx hb ht hown hK hw (by decide) (ht _ q_1314) rfl rfl dX11_oneWay__12 ?_
  refine lv_iload_n hx hb dX11_oneWay__15 rfl (lv_at hl 1 rfl) ?_
  obtain ⟨z7, h⟩ := h
  refine m_iald hx hb hK hw (by decide) z7 dX11_oneWay__16 ?_
  refine lv_i2l hx hb dX11_oneWay__17 rfl ?_
  refine lv_aload_n hx hb dX11_oneWay__18 rfl (lv_at hl 0 rfl) ?_
  refine m_get (i := 2) hx hb ht hown hK hw (by decide) (ht _ q_1315) rfl rfl dX11_oneWay__19 ?_
  refine lv_iload_n hx hb dX11_oneWay__22 rfl (lv_at hl 1 rfl) ?_
  obtain ⟨z8, h⟩ := h
  refine m_iald hx hb hK hw (by decide) z8 dX11_oneWay__23 ?_
  refine lv_i2l hx hb dX11_oneWay__24 rfl ?_
  refine lv_iconst (v := (0 : Int32)) hx hb dX11_oneWay__25 (by decide) ?_
  refine S_callA hw (va_runS (own := "LeastreaderModel") (As := [.ref q3, .int (μ 1 a1.toNatClampNeg), .long ((μ 2 a1.toNatClampNeg).toInt64), .long ((μ 3 a1.toNatClampNeg).toInt64), .int (0 : Int32)]) (rest := []) ⟨hx, hb, hml, hown, ht⟩ (c_X11_oneWay q3 H.size n4 f5 (μ 1 a1.toNatClampNeg) ((μ 2 a1.toNatClampNeg).toInt64) ((μ 3 a1.toNatClampNeg).toInt64) (0 : Int32) h) (va_cwS 5 ht (G_S q_1456 q_1457 q_56 q_1458) rfl rfl rfl hd_83 ⟨Nat.le_of_ble_eq_true rfl, Nat.le_of_ble_eq_true rfl⟩) ⟨SB.blind, SB.pre hK (va_Pc2 (hw.n (j := 0) rfl) va_P0)⟩ rfl rfl hl.1 rfl (lv_room (Nat.le_of_ble_eq_true rfl)) dX11_oneWay__26 ⟨show 1 + 3 ≤ 4 by omega, show 21 + 288 ≤ 309 by omega⟩) (fun H locs h hw => ?_) (fun q9 n10 f11 H locs hq9 h hw => ?_)
  · skip
    have h := h.1 rfl
    exact hretN H locs ls 29 _ _ _ _ hw ⟨rfl, h⟩ (show 4 ≤ 4 by omega) (show 309 ≤ 309 by omega) dX11_oneWay__29
  have h := h.2 _ _ rfl
  have hw : MW D (MR ad cI μ) [eL cL q3 n4 f5, eI cI q9 n10 f11] (MA ad s.heap.size) s H locs := hw
  exact hret H locs ls 29 _ _ _ 1 _ _ _ _ hw rfl hq9 ⟨rfl, h⟩ (show 4 ≤ 4 by omega) (show 309 ≤ 309 by omega) dX11_oneWay__29
def wpl_X11_isLike_19 (fa1 : Nat → Int32) (na1 : Nat) (fa2 : Nat → Int32) (na2 : Nat) (v8 : Int32) (v9 : Int32) (Q : Int32 → Prop) : Nat → Int32 → Int32 → Prop
  | 0, _, _ => False
  | n + 1, v6, v7 =>
    ((3 : Int32) ≤ v6 → (isB v7 ∧ (Q v7))) ∧ (¬ (3 : Int32) ≤ v6 → (vp_in (((4 : Int32) * v8) + v6) na1 ∧ (vp_in (fa1 (((4 : Int32) * v8) + v6).toNatClampNeg) na2 ∧ (vp_in (((4 : Int32) * v9) + v6) na1 ∧ (vp_in (fa1 (((4 : Int32) * v9) + v6).toNatClampNeg) na2 ∧ ((¬ (fa2 (fa1 (((4 : Int32) * v8) + v6).toNatClampNeg).toNatClampNeg) = (fa2 (fa1 (((4 : Int32) * v9) + v6).toNatClampNeg).toNatClampNeg) → (wpl_X11_isLike_19 fa1 na1 fa2 na2 v8 v9 Q n (v6 + (1 : Int32)) (v7 &&& (0 : Int32)))) ∧ ((fa2 (fa1 (((4 : Int32) * v8) + v6).toNatClampNeg).toNatClampNeg) = (fa2 (fa1 (((4 : Int32) * v9) + v6).toNatClampNeg).toNatClampNeg) → (wpl_X11_isLike_19 fa1 na1 fa2 na2 v8 v9 Q n (v6 + (1 : Int32)) (v7 &&& (1 : Int32))))))))))
def wp_X11_isLike (na1 : Nat) (fa1 : Nat → Int32) (na2 : Nat) (fa2 : Nat → Int32) (a3 : Int32) (a4 : Int32) (Q : Int32 → Prop) : Prop :=
  vp_in a3 na2 ∧ (vp_in a4 na2 ∧ (∀ J3 : Int32 → Prop, (∀ (j4 : Int32), (∃ n4x, wpl_X11_isLike_19 fa1 na1 fa2 na2 a3 a4 Q n4x (0 : Int32) j4) → J3 j4) → ((¬ (fa2 a3.toNatClampNeg) = (fa2 a4.toNatClampNeg) → (J3 (0 : Int32))) ∧ ((fa2 a3.toNatClampNeg) = (fa2 a4.toNatClampNeg) → (J3 (1 : Int32))))))
set_option maxHeartbeats 4000000 in
set_option maxRecDepth 100000 in
theorem c_X11_isLike {l : Launch} {D : va_G} {cI cL : ClassId} (qa1 : Nat) (qa2 : Nat)  (sz : Nat) (na1 : Nat) (fa1 : Nat → Int32) (na2 : Nat) (fa2 : Nat → Int32) (a3 : Int32) (a4 : Int32)  {Q : Int32 → Prop} (h : wp_X11_isLike na1 fa1 na2 fa2 a3 a4 Q) : SMi l yX11_isLike (.code yX11_isLike cX11_isLike 6 (Option.some Jvm.ClassFile.FieldType.boolean)) 0 0 0 [.ref qa1, .ref qa2, .int a3, .int a4] D cI cL sz [eI cI qa1 na1 fa1, eI cI qa2 na2 fa2] Q := by
  refine S_meti (by decide +kernel) (Nat.le_of_ble_eq_true rfl) ?_
  intro p e s m below meth c Z ls hx hb hml hown ht hK hP0 hw hret hl
  have hl : lv_has ls 6 [(0, .ref qa1), (1, .ref qa2), (2, .int a3), (3, .int a4)] := hl
  have hL0 := va_Ph hP0
  have hB0 : ¬ SA s.heap.size qa1 := fun z => absurd hL0.lt (Nat.not_lt.mpr z)
  have hL1 := va_Ph (va_Pt hP0)
  have hB1 : ¬ SA s.heap.size qa2 := fun z => absurd hL1.lt (Nat.not_lt.mpr z)
  suffices hh : ∀ (H : Heap) (locs : List Loc), MW D [] [] (SA s.heap.size) s H locs → W p l e (RA 0 0 0) s m #[.ref qa1, .ref qa2, .int a3, .int a4] below meth c H locs 0 0 Z (F0 m 0 ls []) from hh _ _ hw
  intro H locs hw
  change vp_in a3 na2 ∧ (vp_in a4 na2 ∧ (∀ J3 : Int32 → Prop, (∀ (j4 : Int32), (∃ n4x, wpl_X11_isLike_19 fa1 na1 fa2 na2 a3 a4 Q n4x (0 : Int32) j4) → J3 j4) → ((¬ (fa2 a3.toNatClampNeg) = (fa2 a4.toNatClampNeg) → (J3 (0 : Int32))) ∧ ((fa2 a3.toNatClampNeg) = (fa2 a4.toNatClampNeg) → (J3 (1 : Int32)))))) at h
  refine lv_aload_n hx hb dX11_isLike_0 rfl (lv_at hl 1 rfl) ?_
  refine lv_iload_n hx hb dX11_isLike_1 rfl (lv_at hl 2 rfl) ?_
  obtain ⟨z1, h⟩ := h
  refine n_iald hx hb hK (hw.arg hL1 hB1) z1 dX11_isLike_2 ?_
  refine lv_aload_n hx hb dX11_isLike_3 rfl (lv_at hl 1 rfl) ?_
  refine lv_iload_n hx hb dX11_isLike_4 rfl (lv_at hl 3 rfl) ?_
  obtain ⟨z2, h⟩ := h
  refine n_iald hx hb hK (hw.arg hL1 hB1) z2 dX11_isLike_5 ?_
  have h := h (fun (j4 : Int32) => ∀ (H : Heap) (locs : List Loc) (ls : Array Slot), MW D [] [] (SA s.heap.size) s H locs → lv_has ls 6 [(0, .ref qa1), (1, .ref qa2), (2, .int a3), (3, .int a4)] → W p l e (RA 0 0 0) s m #[.ref qa1, .ref qa2, .int a3, .int a4] below meth c H locs 0 0 Z (F0 m 14 ls [.int j4])) (fun j4 h H locs ls hw hl => by
    refine lv_istore (lv' := [(4, .int j4), (0, .ref qa1), (1, .ref qa2), (2, .int a3), (3, .int a4)]) hx hb dX11_isLike_14 hl (by decide) rfl (fun ls hl => ?_)
    refine lv_iconst (v := (0 : Int32)) hx hb dX11_isLike_16 (by decide) ?_
    refine lv_istore (lv' := [(5, .int (0 : Int32)), (4, .int j4), (0, .ref qa1), (1, .ref qa2), (2, .int a3), (3, .int a4)]) hx hb dX11_isLike_17 hl (by decide) rfl (fun ls hl => ?_)
    obtain ⟨n17, h⟩ := h
    have L4 : ∀ (v8 : Int32) (v9 : Int32), ∀ (n : Nat), ∀ (v6 : Int32) (v7 : Int32), ∀ (H : Heap) (locs : List Loc) (ls : Array Slot), MW D [] [] (SA s.heap.size) s H locs → lv_has ls 6 [(5, .int v6), (4, .int v7), (0, .ref qa1), (1, .ref qa2), (2, .int v8), (3, .int v9)] → wpl_X11_isLike_19 fa1 na1 fa2 na2 v8 v9 Q n v6 v7 → W p l e (RA 0 0 0) s m #[.ref qa1, .ref qa2, .int a3, .int a4] below meth c H locs 0 0 Z (F0 m 19 ls []) := by
      intro v8 v9
      intro n
      induction n with
      | zero => intro v6 v7 H locs ls hw hl h; exact False.elim h
      | succ n ih4 =>
        intro v6 v7 H locs ls hw hl h
        change ((3 : Int32) ≤ v6 → (isB v7 ∧ (Q v7))) ∧ (¬ (3 : Int32) ≤ v6 → (vp_in (((4 : Int32) * v8) + v6) na1 ∧ (vp_in (fa1 (((4 : Int32) * v8) + v6).toNatClampNeg) na2 ∧ (vp_in (((4 : Int32) * v9) + v6) na1 ∧ (vp_in (fa1 (((4 : Int32) * v9) + v6).toNatClampNeg) na2 ∧ ((¬ (fa2 (fa1 (((4 : Int32) * v8) + v6).toNatClampNeg).toNatClampNeg) = (fa2 (fa1 (((4 : Int32) * v9) + v6).toNatClampNeg).toNatClampNeg) → (wpl_X11_isLike_19 fa1 na1 fa2 na2 v8 v9 Q n (v6 + (1 : Int32)) (v7 &&& (0 : Int32)))) ∧ ((fa2 (fa1 (((4 : Int32) * v8) + v6).toNatClampNeg).toNatClampNeg) = (fa2 (fa1 (((4 : Int32) * v9) + v6).toNatClampNeg).toNatClampNeg) → (wpl_X11_isLike_19 fa1 na1 fa2 na2 v8 v9 Q n (v6 + (1 : Int32)) (v7 &&& (1 : Int32)))))))))) at h
        refine lv_iload hx hb dX11_isLike_19 (lv_at hl 0 rfl) ?_
        refine lv_iconst (v := (3 : Int32)) hx hb dX11_isLike_21 (by decide) ?_
        refine lv_icmp_ge (tgt := 64) hx hb dX11_isLike_22 (by decide) (fun c10 => ?_) (fun c10 => ?_)
        · have h := h.1 c10
          refine lv_iload hx hb dX11_isLike_64 (lv_at hl 1 rfl) ?_
          obtain ⟨z11, h⟩ := h
          exact hret H locs ls 66 _ _ _ _ hw h (isB_n z11) (show 0 ≤ 0 by omega) (show 0 ≤ 0 by omega) dX11_isLike_66
        have h := h.2 c10
        refine lv_iload hx hb dX11_isLike_25 (lv_at hl 1 rfl) ?_
        refine lv_aload_n hx hb dX11_isLike_27 rfl (lv_at hl 3 rfl) ?_
        refine lv_aload_n hx hb dX11_isLike_28 rfl (lv_at hl 2 rfl) ?_
        refine lv_iconst (v := (4 : Int32)) hx hb dX11_isLike_29 (by decide) ?_
        refine lv_iload_n hx hb dX11_isLike_30 rfl (lv_at hl 4 rfl) ?_
        refine lv_imul hx hb dX11_isLike_31 ?_
        refine lv_iload hx hb dX11_isLike_32 (lv_at hl 0 rfl) ?_
        refine lv_iadd hx hb dX11_isLike_34 ?_
        obtain ⟨z12, h⟩ := h
        refine n_iald hx hb hK (hw.arg hL0 hB0) z12 dX11_isLike_35 ?_
        obtain ⟨z13, h⟩ := h
        refine n_iald hx hb hK (hw.arg hL1 hB1) z13 dX11_isLike_36 ?_
        refine lv_aload_n hx hb dX11_isLike_37 rfl (lv_at hl 3 rfl) ?_
        refine lv_aload_n hx hb dX11_isLike_38 rfl (lv_at hl 2 rfl) ?_
        refine lv_iconst (v := (4 : Int32)) hx hb dX11_isLike_39 (by decide) ?_
        refine lv_iload_n hx hb dX11_isLike_40 rfl (lv_at hl 5 rfl) ?_
        refine lv_imul hx hb dX11_isLike_41 ?_
        refine lv_iload hx hb dX11_isLike_42 (lv_at hl 0 rfl) ?_
        refine lv_iadd hx hb dX11_isLike_44 ?_
        obtain ⟨z14, h⟩ := h
        refine n_iald hx hb hK (hw.arg hL0 hB0) z14 dX11_isLike_45 ?_
        obtain ⟨z15, h⟩ := h
        refine n_iald hx hb hK (hw.arg hL1 hB1) z15 dX11_isLike_46 ?_
        refine lv_icmp_ne (tgt := 54) hx hb dX11_isLike_47 (by decide) (fun c16 => ?_) (fun c16 => ?_)
        · have h := h.1 c16
          refine lv_iconst (v := (0 : Int32)) hx hb dX11_isLike_54 (by decide) ?_
          refine lv_iand hx hb dX11_isLike_55 ?_
          refine lv_istore (lv' := [(4, .int (v7 &&& (0 : Int32))), (5, .int v6), (0, .ref qa1), (1, .ref qa2), (2, .int v8), (3, .int v9)]) hx hb dX11_isLike_56 hl (by decide) rfl (fun ls hl => ?_)
          refine lv_iinc (v := (v6 + (1 : Int32))) (lv' := [(5, .int (v6 + (1 : Int32))), (4, .int (v7 &&& (0 : Int32))), (0, .ref qa1), (1, .ref qa2), (2, .int v8), (3, .int v9)]) hx hb dX11_isLike_58 hl (k := 1) rfl rfl (by decide) rfl (fun ls hl => ?_)
          refine lv_goto (tgt := 19) hx hb dX11_isLike_61 (by decide) ?_
          exact ih4 (v6 + (1 : Int32)) (v7 &&& (0 : Int32)) H locs ls hw (lv_sub hl [0, 1, 2, 3, 4, 5] rfl) h
        have h := h.2 c16
        refine lv_iconst (v := (1 : Int32)) hx hb dX11_isLike_50 (by decide) ?_
        refine lv_goto (tgt := 55) hx hb dX11_isLike_51 (by decide) ?_
        refine lv_iand hx hb dX11_isLike_55 ?_
        refine lv_istore (lv' := [(4, .int (v7 &&& (1 : Int32))), (5, .int v6), (0, .ref qa1), (1, .ref qa2), (2, .int v8), (3, .int v9)]) hx hb dX11_isLike_56 hl (by decide) rfl (fun ls hl => ?_)
        refine lv_iinc (v := (v6 + (1 : Int32))) (lv' := [(5, .int (v6 + (1 : Int32))), (4, .int (v7 &&& (1 : Int32))), (0, .ref qa1), (1, .ref qa2), (2, .int v8), (3, .int v9)]) hx hb dX11_isLike_58 hl (k := 1) rfl rfl (by decide) rfl (fun ls hl => ?_)
        refine lv_goto (tgt := 19) hx hb dX11_isLike_61 (by decide) ?_
        exact ih4 (v6 + (1 : Int32)) (v7 &&& (1 : Int32)) H locs ls hw (lv_sub hl [0, 1, 2, 3, 4, 5] rfl) h
    exact L4 a3 a4 n17 (0 : Int32) j4 H locs ls hw (lv_sub hl [0, 1, 2, 3, 4, 5] rfl) h)
  refine lv_icmp_ne (tgt := 13) hx hb dX11_isLike_6 (by decide) (fun c18 => ?_) (fun c18 => ?_)
  · have h := h.1 c18
    refine lv_iconst (v := (0 : Int32)) hx hb dX11_isLike_13 (by decide) ?_
    exact h H locs ls hw (lv_sub hl [0, 1, 2, 3] rfl)
  have h := h.2 c18
  refine lv_iconst (v := (1 : Int32)) hx hb dX11_isLike_9 (by decide) ?_
  refine lv_goto (tgt := 14) hx hb dX11_isLike_10 (by decide) ?_
  exact h H locs ls hw (lv_sub hl [0, 1, 2, 3] rfl)
end
/-! part 64.r3 -/
section
def wpl_X11_alike_11 (fa1 : Nat → Int32) (na1 : Nat) (n6 : Nat) (v5 : Int32) (K32 : (Nat → Int32) → Prop) : Nat → Int32 → (Nat → Int32) → Prop
  | 0, _, _ => False
  | n + 1, v4, f7 =>
    (v5 ≤ v4 → (K32 f7)) ∧ (¬ v5 ≤ v4 → (vp_in (((4 : Int32) * v4) + (3 : Int32)) na1 ∧ (vp_in v4 n6 ∧ (wpl_X11_alike_11 fa1 na1 n6 v5 K32 n (v4 + (1 : Int32)) (upd f7 v4.toNatClampNeg (fa1 (((4 : Int32) * v4) + (3 : Int32)).toNatClampNeg))))))
def wpl_X11_alike_56 (fa1 : Nat → Int32) (na1 : Nat) (f17 : Nat → Int32) (n16 : Nat) (f27 : Nat → Int32) (n26 : Nat) (v31 : Int32) (v32 : Int32) (v33 : Int32) (K74 : Int32 → Prop) : Nat → Int32 → Prop
  | 0, _ => False
  | n + 1, v30 =>
    wp_X11_isLike na1 fa1 n16 f17 v30 v31 (fun (r34 : Int32) => (¬ r34 = 0 → (K74 v30)) ∧ (r34 = 0 → (wpl_X11_alike_56 fa1 na1 f17 n16 f27 n26 v31 v32 v33 K74 n (v30 + (1 : Int32)))))
def wpl_X11_alike_47 (fa1 : Nat → Int32) (na1 : Nat) (f17 : Nat → Int32) (n16 : Nat) (n26 : Nat) (v24 : Int32) (v25 : Int32) (K87 : (Nat → Int32) → Prop) : Nat → Int32 → (Nat → Int32) → Prop
  | 0, _, _ => False
  | n + 1, v23, f27 =>
    (v25 ≤ v23 → (K87 f27)) ∧ (¬ v25 ≤ v23 → (∃ n28x, wpl_X11_alike_56 fa1 na1 f17 n16 f27 n26 v23 v24 v25 (fun (u37 : Int32) => vp_in v23 n26 ∧ (wpl_X11_alike_47 fa1 na1 f17 n16 n26 v24 v25 K87 n (v23 + (1 : Int32)) (upd f27 v23.toNatClampNeg u37))) n28x (0 : Int32)))
def wpl_X11_alike_34 (fa1 : Nat → Int32) (na1 : Nat) (v18 : Int32) (Q : Nat → (Nat → Int32) → Prop) : Nat → Int32 → Nat → (Nat → Int32) → Prop
  | 0, _, _, _ => False
  | n + 1, v14, n16, f17 =>
    (v18 ≤ v14 → (Q n16 f17)) ∧ (¬ v18 ≤ v14 → ((¬ v18 < 0 ∧ v18.toNatClampNeg ≤ 32) ∧ (∃ n21x, wpl_X11_alike_47 fa1 na1 f17 n16 v18.toNatClampNeg v14 v18 (fun (f40 : Nat → Int32) => wpl_X11_alike_34 fa1 na1 v18 Q n (v14 + (1 : Int32)) v18.toNatClampNeg f40) n21x (0 : Int32) (fun _ => 0))))
def wp_X11_alike (na1 : Nat) (fa1 : Nat → Int32) (Q : Nat → (Nat → Int32) → Prop) : Prop :=
  (¬ ((nI na1) / (4 : Int32)) < 0 ∧ ((nI na1) / (4 : Int32)).toNatClampNeg ≤ 32) ∧ (∃ n2x, wpl_X11_alike_11 fa1 na1 (((nI na1) / (4 : Int32)).toNatClampNeg) ((nI na1) / (4 : Int32)) (fun (f12 : Nat → Int32) => ∃ n12x, n12x ≤ 33 ∧ wpl_X11_alike_34 fa1 na1 ((nI na1) / (4 : Int32)) Q n12x (0 : Int32) (((nI na1) / (4 : Int32)).toNatClampNeg) f12) n2x (0 : Int32) (fun _ => 0))
set_option maxHeartbeats 4000000 in
set_option maxRecDepth 100000 in
theorem c_X11_alike {l : Launch} {D : va_G} {cI cL : ClassId} (qa1 : Nat)  (sz : Nat) (na1 : Nat) (fa1 : Nat → Int32)  {Q : Nat → (Nat → Int32) → Prop} (h : wp_X11_alike na1 fa1 Q) : SMA l yX11_alike (.code yX11_alike cX11_alike 7 (Option.some (Jvm.ClassFile.FieldType.array Jvm.ClassFile.FieldType.int))) 1 34 1088 [.ref qa1] D cI cL sz [eI cI qa1 na1 fa1] (fun o => ∃ n f, o = some (n, f) ∧ Q n f) := by
  refine S_metA (by decide +kernel) (Nat.le_of_ble_eq_true rfl) ?_
  intro p e s m below meth c Z ls hx hb hml hown ht hK hP0 hw hret hretN hl
  have hl : lv_has ls 7 [(0, .ref qa1)] := hl
  have hL0 := va_Ph hP0
  have hB0 : ¬ SA s.heap.size qa1 := fun z => absurd hL0.lt (Nat.not_lt.mpr z)
  suffices hh : ∀ (H : Heap) (locs : List Loc), MW D [] [] (SA s.heap.size) s H locs → W p l e (RA 1 34 1088) s m #[.ref qa1] below meth c H locs 0 0 Z (F0 m 0 ls []) from hh _ _ hw
  intro H locs hw
  change (¬ ((nI na1) / (4 : Int32)) < 0 ∧ ((nI na1) / (4 : Int32)).toNatClampNeg ≤ 32) ∧ (∃ n2x, wpl_X11_alike_11 fa1 na1 (((nI na1) / (4 : Int32)).toNatClampNeg) ((nI na1) / (4 : Int32)) (fun (f12 : Nat → Int32) => ∃ n12x, n12x ≤ 33 ∧ wpl_X11_alike_34 fa1 na1 ((nI na1) / (4 : Int32)) Q n12x (0 : Int32) (((nI na1) / (4 : Int32)).toNatClampNeg) f12) n2x (0 : Int32) (fun _ => 0)) at h
  refine lv_aload_n hx hb dX11_alike_0 rfl (lv_at hl 0 rfl) ?_
  refine n_alenI hx hb hK (hw.arg hL0 hB0) dX11_alike_1 ?_
  refine lv_iconst (v := (4 : Int32)) hx hb dX11_alike_2 (by decide) ?_
  refine lv_idiv hx hb dX11_alike_3 (by decide) ?_
  refine lv_istore_n (lv' := [(1, .int ((nI na1) / (4 : Int32))), (0, .ref qa1)]) hx hb dX11_alike_4 rfl hl (by decide) rfl (fun ls hl => ?_)
  refine lv_iload_n hx hb dX11_alike_5 rfl (lv_at hl 0 rfl) ?_
  obtain ⟨z1, h⟩ := h
  refine n_newI (B := 32) hx hb ht q_128 hK hw z1 (by decide) (show 0 + 1 ≤ 34 by omega) (show 0 + 32 ≤ 1088 by omega) dX11_alike_6 (fun q2 H hq2 hw => ?_)
  have hw : MW D [] [eI cI q2 (((nI na1) / (4 : Int32)).toNatClampNeg) (fun _ => 0)] (SA s.heap.size) s H locs := hw
  refine lv_astore_n (lv' := [(2, .ref q2), (1, .int ((nI na1) / (4 : Int32))), (0, .ref qa1)]) hx hb dX11_alike_8 rfl hl (by decide) rfl (fun ls hl => ?_)
  refine lv_iconst (v := (0 : Int32)) hx hb dX11_alike_9 (by decide) ?_
  refine lv_istore_n (lv' := [(3, .int (0 : Int32)), (2, .ref q2), (1, .int ((nI na1) / (4 : Int32))), (0, .ref qa1)]) hx hb dX11_alike_10 rfl hl (by decide) rfl (fun ls hl => ?_)
  obtain ⟨n11, h⟩ := h
  have L2 : ∀ (n6 : Nat) (v5 : Int32) (K32 : (Nat → Int32) → Prop), (∀ (f7 : Nat → Int32), ∀ (H : Heap) (locs : List Loc) (ls : Array Slot), MW D [] [eI cI q2 n6 f7] (SA s.heap.size) s H locs → lv_has ls 7 [(2, .ref q2), (1, .int v5), (0, .ref qa1)] → K32 f7 → W p l e (RA 1 34 1088) s m #[.ref qa1] below meth c H locs 1 32 Z (F0 m 32 ls [])) → ∀ (n : Nat), ∀ (v4 : Int32) (f7 : Nat → Int32), ∀ (H : Heap) (locs : List Loc) (ls : Array Slot), MW D [] [eI cI q2 n6 f7] (SA s.heap.size) s H locs → lv_has ls 7 [(3, .int v4), (2, .ref q2), (1, .int v5), (0, .ref qa1)] → wpl_X11_alike_11 fa1 na1 n6 v5 K32 n v4 f7 → W p l e (RA 1 34 1088) s m #[.ref qa1] below meth c H locs 1 32 Z (F0 m 11 ls []) := by
    intro n6 v5 K32 hK32
    intro n
    induction n with
    | zero => intro v4 f7 H locs ls hw hl h; exact False.elim h
    | succ n ih2 =>
      intro v4 f7 H locs ls hw hl h
      change (v5 ≤ v4 → (K32 f7)) ∧ (¬ v5 ≤ v4 → (vp_in (((4 : Int32) * v4) + (3 : Int32)) na1 ∧ (vp_in v4 n6 ∧ (wpl_X11_alike_11 fa1 na1 n6 v5 K32 n (v4 + (1 : Int32)) (upd f7 v4.toNatClampNeg (fa1 (((4 : Int32) * v4) + (3 : Int32)).toNatClampNeg)))))) at h
      refine lv_iload_n hx hb dX11_alike_11 rfl (lv_at hl 0 rfl) ?_
      refine lv_iload_n hx hb dX11_alike_12 rfl (lv_at hl 2 rfl) ?_
      refine lv_icmp_ge (tgt := 32) hx hb dX11_alike_13 (by decide) (fun c8 => ?_) (fun c8 => ?_)
      · have h := h.1 c8
        exact hK32 f7 H locs ls hw (lv_sub hl [1, 2, 3] rfl) h
      have h := h.2 c8
      refine lv_aload_n hx hb dX11_alike_16 rfl (lv_at hl 1 rfl) ?_
      refine lv_iload_n hx hb dX11_alike_17 rfl (lv_at hl 0 rfl) ?_
      refine lv_aload_n hx hb dX11_alike_18 rfl (lv_at hl 3 rfl) ?_
      refine lv_iconst (v := (4 : Int32)) hx hb dX11_alike_19 (by decide) ?_
      refine lv_iload_n hx hb dX11_alike_20 rfl (lv_at hl 0 rfl) ?_
      refine lv_imul hx hb dX11_alike_21 ?_
      refine lv_iconst (v := (3 : Int32)) hx hb dX11_alike_22 (by decide) ?_
      refine lv_iadd hx hb dX11_alike_23 ?_
      obtain ⟨z9, h⟩ := h
      refine n_iald hx hb hK (hw.arg hL0 hB0) z9 dX11_alike_24 ?_
      obtain ⟨z10, h⟩ := h
      refine n_iast (j := 0) hx hb hK hw rfl z10 dX11_alike_25 (fun H locs hw => ?_)
      have hw : MW D [] [eI cI q2 n6 (upd f7 v4.toNatClampNeg (fa1 (((4 : Int32) * v4) + (3 : Int32)).toNatClampNeg))] (SA s.heap.size) s H locs := hw
      refine lv_iinc (v := (v4 + (1 : Int32))) (lv' := [(3, .int (v4 + (1 : Int32))), (2, .ref q2), (1, .int v5), (0, .ref qa1)]) hx hb dX11_alike_26 hl (k := 0) rfl rfl (by decide) rfl (fun ls hl => ?_)
      refine lv_goto (tgt := 11) hx hb dX11_alike_29 (by decide) ?_
      exact ih2 (v4 + (1 : Int32)) (upd f7 v4.toNatClampNeg (fa1 (((4 : Int32) * v4) + (3 : Int32)).toNatClampNeg)) H locs ls hw (lv_sub hl [0, 1, 2, 3] rfl) h
  refine L2 (((nI na1) / (4 : Int32)).toNatClampNeg) ((nI na1) / (4 : Int32)) _ ?_ n11 (0 : Int32) (fun _ => 0) H locs ls hw (lv_sub hl [0, 1, 2, 3] rfl) h
  intro f12 H locs ls hw hl h
  refine lv_iconst (v := (0 : Int32)) hx hb dX11_alike_32 (by decide) ?_
  refine lv_istore_n (lv' := [(3, .int (0 : Int32)), (2, .ref q2), (1, .int ((nI na1) / (4 : Int32))), (0, .ref qa1)]) hx hb dX11_alike_33 rfl hl (by decide) rfl (fun ls hl => ?_)
  obtain ⟨n41, n41b, h⟩ := h
  have L12 : ∀ (v18 : Int32), ∀ (n : Nat) (cv12 sv12 : Nat), cv12 + n * 1 ≤ 34 → sv12 + n * 32 ≤ 1088 → ∀ (v14 : Int32) (q15 : Nat) (n16 : Nat) (f17 : Nat → Int32), s.heap.size ≤ q15 → ∀ (H : Heap) (locs : List Loc) (ls : Array Slot), MW D [] [eI cI q15 n16 f17] (SA s.heap.size) s H locs → lv_has ls 7 [(3, .int v14), (2, .ref q15), (1, .int v18), (0, .ref qa1)] → wpl_X11_alike_34 fa1 na1 v18 Q n v14 n16 f17 → W p l e (RA 1 34 1088) s m #[.ref qa1] below meth c H locs cv12 sv12 Z (F0 m 34 ls []) := by
    intro v18
    intro n
    induction n with
    | zero => intro cv12 sv12 hcv12 hsv12 v14 q15 n16 f17 hq15 H locs ls hw hl h; exact False.elim h
    | succ n ih12 =>
      intro cv12 sv12 hcv12 hsv12 v14 q15 n16 f17 hq15 H locs ls hw hl h
      change (v18 ≤ v14 → (Q n16 f17)) ∧ (¬ v18 ≤ v14 → ((¬ v18 < 0 ∧ v18.toNatClampNeg ≤ 32) ∧ (∃ n21x, wpl_X11_alike_47 fa1 na1 f17 n16 v18.toNatClampNeg v14 v18 (fun (f40 : Nat → Int32) => wpl_X11_alike_34 fa1 na1 v18 Q n (v14 + (1 : Int32)) v18.toNatClampNeg f40) n21x (0 : Int32) (fun _ => 0)))) at h
      refine lv_iload_n hx hb dX11_alike_34 rfl (lv_at hl 0 rfl) ?_
      refine lv_iload_n hx hb dX11_alike_35 rfl (lv_at hl 2 rfl) ?_
      refine lv_icmp_ge (tgt := 96) hx hb dX11_alike_36 (by decide) (fun c19 => ?_) (fun c19 => ?_)
      · have h := h.1 c19
        refine lv_aload_n hx hb dX11_alike_96 rfl (lv_at hl 1 rfl) ?_
        exact hret H locs ls 97 _ _ _ 0 _ _ _ hw rfl hq15 ⟨_, _, rfl, h⟩ (show cv12 ≤ 34 by omega) (show sv12 ≤ 1088 by omega) dX11_alike_97
      have h := h.2 c19
      refine lv_iload_n hx hb dX11_alike_39 rfl (lv_at hl 2 rfl) ?_
      obtain ⟨z20, h⟩ := h
      refine n_newI (B := 32) hx hb ht q_128 hK hw z20 (by decide) (show cv12 + 1 ≤ 34 by omega) (show sv12 + 32 ≤ 1088 by omega) dX11_alike_40 (fun q21 H hq21 hw => ?_)
      have hw : MW D [] [eI cI q15 n16 f17, eI cI q21 v18.toNatClampNeg (fun _ => 0)] (SA s.heap.size) s H locs := hw
      refine lv_astore (lv' := [(4, .ref q21), (3, .int v14), (2, .ref q15), (1, .int v18), (0, .ref qa1)]) hx hb dX11_alike_42 hl (by decide) rfl (fun ls hl => ?_)
      refine lv_iconst (v := (0 : Int32)) hx hb dX11_alike_44 (by decide) ?_
      refine lv_istore (lv' := [(5, .int (0 : Int32)), (4, .ref q21), (3, .int v14), (2, .ref q15), (1, .int v18), (0, .ref qa1)]) hx hb dX11_alike_45 hl (by decide) rfl (fun ls hl => ?_)
      obtain ⟨n39, h⟩ := h
      have L21 : ∀ (n26 : Nat) (v24 : Int32) (v25 : Int32) (K87 : (Nat → Int32) → Prop), (∀ (f27 : Nat → Int32), ∀ (H : Heap) (locs : List Loc) (ls : Array Slot), MW D [] [eI cI q21 n26 f27] (SA s.heap.size) s H locs → lv_has ls 7 [(4, .ref q21), (3, .int v24), (1, .int v25), (0, .ref qa1)] → K87 f27 → W p l e (RA 1 34 1088) s m #[.ref qa1] below meth c H locs (cv12 + 1) (sv12 + 32) Z (F0 m 87 ls [])) → ∀ (n : Nat), ∀ (v23 : Int32) (f27 : Nat → Int32), ∀ (H : Heap) (locs : List Loc) (ls : Array Slot), MW D [] [eI cI q15 n16 f17, eI cI q21 n26 f27] (SA s.heap.size) s H locs → lv_has ls 7 [(5, .int v23), (4, .ref q21), (3, .int v24), (2, .ref q15), (1, .int v25), (0, .ref qa1)] → wpl_X11_alike_47 fa1 na1 f17 n16 n26 v24 v25 K87 n v23 f27 → W p l e (RA 1 34 1088) s m #[.ref qa1] below meth c H locs (cv12 + 1) (sv12 + 32) Z (F0 m 47 ls []) := by
        intro n26 v24 v25 K87 hK87
        intro n
        induction n with
        | zero => intro v23 f27 H locs ls hw hl h; exact False.elim h
        | succ n ih21 =>
          intro v23 f27 H locs ls hw hl h
          change (v25 ≤ v23 → (K87 f27)) ∧ (¬ v25 ≤ v23 → (∃ n28x, wpl_X11_alike_56 fa1 na1 f17 n16 f27 n26 v23 v24 v25 (fun (u37 : Int32) => vp_in v23 n26 ∧ (wpl_X11_alike_47 fa1 na1 f17 n16 n26 v24 v25 K87 n (v23 + (1 : Int32)) (upd f27 v23.toNatClampNeg u37))) n28x (0 : Int32))) at h
          refine lv_iload hx hb dX11_alike_47 (lv_at hl 0 rfl) ?_
          refine lv_iload_n hx hb dX11_alike_49 rfl (lv_at hl 4 rfl) ?_
          refine lv_icmp_ge (tgt := 87) hx hb dX11_alike_50 (by decide) (fun c28 => ?_) (fun c28 => ?_)
          · have h := h.1 c28
            exact hK87 f27 H locs ls (hw.sub [1] (by decide) rfl) (lv_sub hl [1, 2, 4, 5] rfl) h
          have h := h.2 c28
          refine lv_iconst (v := (0 : Int32)) hx hb dX11_alike_53 (by decide) ?_
          refine lv_istore (lv' := [(6, .int (0 : Int32)), (5, .int v23), (4, .ref q21), (3, .int v24), (2, .ref q15), (1, .int v25), (0, .ref qa1)]) hx hb dX11_alike_54 hl (by decide) rfl (fun ls hl => ?_)
          obtain ⟨n36, h⟩ := h
          have L28 : ∀ (v31 : Int32) (v32 : Int32) (v33 : Int32) (K74 : Int32 → Prop), (∀ (v30 : Int32), ∀ (H : Heap) (locs : List Loc) (ls : Array Slot), MW D [] [eI cI q15 n16 f17, eI cI q21 n26 f27] (SA s.heap.size) s H locs → lv_has ls 7 [(6, .int v30), (5, .int v31), (4, .ref q21), (3, .int v32), (2, .ref q15), (1, .int v33), (0, .ref qa1)] → K74 v30 → W p l e (RA 1 34 1088) s m #[.ref qa1] below meth c H locs (cv12 + 1) (sv12 + 32) Z (F0 m 74 ls [])) → ∀ (n : Nat), ∀ (v30 : Int32), ∀ (H : Heap) (locs : List Loc) (ls : Array Slot), MW D [] [eI cI q15 n16 f17, eI cI q21 n26 f27] (SA s.heap.size) s H locs → lv_has ls 7 [(6, .int v30), (5, .int v31), (4, .ref q21), (3, .int v32), (2, .ref q15), (1, .int v33), (0, .ref qa1)] → wpl_X11_alike_56 fa1 na1 f17 n16 f27 n26 v31 v32 v33 K74 n v30 → W p l e (RA 1 34 1088) s m #[.ref qa1] below meth c H locs (cv12 + 1) (sv12 + 32) Z (F0 m 56 ls []) := by
            intro v31 v32 v33 K74 hK74
            intro n
            induction n with
            | zero => intro v30 H locs ls hw hl h; exact False.elim h
            | succ n ih28 =>
              intro v30 H locs ls hw hl h
              change wp_X11_isLike na1 fa1 n16 f17 v30 v31 (fun (r34 : Int32) => (¬ r34 = 0 → (K74 v30)) ∧ (r34 = 0 → (wpl_X11_alike_56 fa1 na1 f17 n16 f27 n26 v31 v32 v33 K74 n (v30 + (1 : Int32))))) at h
              refine lv_aload_n hx hb dX11_alike_56 rfl (lv_at hl 6 rfl) ?_
              refine lv_aload_n hx hb dX11_alike_57 rfl (lv_at hl 4 rfl) ?_
              refine lv_iload hx hb dX11_alike_58 (lv_at hl 0 rfl) ?_
              refine lv_iload hx hb dX11_alike_60 (lv_at hl 1 rfl) ?_
              refine S_calli hw (va_runS (own := "LeastreaderModel") (As := [.ref qa1, .ref q15, .int v30, .int v31]) (rest := []) ⟨hx, hb, hml, hown, ht⟩ (c_X11_isLike qa1 q15 H.size na1 fa1 n16 f17 v30 v31 h) (va_cwS 4 ht (G_S q_1472 q_1473 q_56 q_1474) rfl rfl rfl hd_84 ⟨Nat.le_of_ble_eq_true rfl, Nat.le_of_ble_eq_true rfl⟩) ⟨SB.blind, SB.pre hK (va_Pc2 (hw.arg hL0 hB0) (va_Pc2 (hw.n (j := 0) rfl) va_P0))⟩ rfl rfl hl.1 rfl (lv_room (Nat.le_of_ble_eq_true rfl)) dX11_alike_62 ⟨show cv12 + 1 + 0 ≤ 34 by omega, show sv12 + 32 + 0 ≤ 1088 by omega⟩) (fun r34 H locs h hw => ?_)
              refine lv_if_ne (tgt := 74) hx hb dX11_alike_65 (by decide) (fun c35 => ?_) (fun c35 => ?_)
              · have h := h.1 c35
                exact hK74 v30 H locs ls hw (lv_sub hl [0, 1, 2, 3, 4, 5, 6] rfl) h
              have h := h.2 c35
              refine lv_iinc (v := (v30 + (1 : Int32))) (lv' := [(6, .int (v30 + (1 : Int32))), (5, .int v31), (4, .ref q21), (3, .int v32), (2, .ref q15), (1, .int v33), (0, .ref qa1)]) hx hb dX11_alike_68 hl (k := 0) rfl rfl (by decide) rfl (fun ls hl => ?_)
              refine lv_goto (tgt := 56) hx hb dX11_alike_71 (by decide) ?_
              exact ih28 (v30 + (1 : Int32)) H locs ls hw (lv_sub hl [0, 1, 2, 3, 4, 5, 6] rfl) h
          refine L28 v23 v24 v25 _ ?_ n36 (0 : Int32) H locs ls hw (lv_sub hl [0, 1, 2, 3, 4, 5, 6] rfl) h
          intro u37 H locs ls hw hl h
          refine lv_aload hx hb dX11_alike_74 (lv_at hl 2 rfl) ?_
          refine lv_iload hx hb dX11_alike_76 (lv_at hl 1 rfl) ?_
          refine lv_iload hx hb dX11_alike_78 (lv_at hl 0 rfl) ?_
          obtain ⟨z38, h⟩ := h
          refine n_iast (j := 1) hx hb hK hw rfl z38 dX11_alike_80 (fun H locs hw => ?_)
          have hw : MW D [] [eI cI q15 n16 f17, eI cI q21 n26 (upd f27 v23.toNatClampNeg u37)] (SA s.heap.size) s H locs := hw
          refine lv_iinc (v := (v23 + (1 : Int32))) (lv' := [(5, .int (v23 + (1 : Int32))), (6, .int u37), (4, .ref q21), (3, .int v24), (2, .ref q15), (1, .int v25), (0, .ref qa1)]) hx hb dX11_alike_81 hl (k := 1) rfl rfl (by decide) rfl (fun ls hl => ?_)
          refine lv_goto (tgt := 47) hx hb dX11_alike_84 (by decide) ?_
          exact ih21 (v23 + (1 : Int32)) (upd f27 v23.toNatClampNeg u37) H locs ls hw (lv_sub hl [0, 2, 3, 4, 5, 6] rfl) h
      refine L21 v18.toNatClampNeg v14 v18 _ ?_ n39 (0 : Int32) (fun _ => 0) H locs ls hw (lv_sub hl [0, 1, 2, 3, 4, 5] rfl) h
      intro f40 H locs ls hw hl h
      refine lv_aload hx hb dX11_alike_87 (lv_at hl 0 rfl) ?_
      refine lv_astore_n (lv' := [(2, .ref q21), (4, .ref q21), (3, .int v14), (1, .int v18), (0, .ref qa1)]) hx hb dX11_alike_89 rfl hl (by decide) rfl (fun ls hl => ?_)
      refine lv_iinc (v := (v14 + (1 : Int32))) (lv' := [(3, .int (v14 + (1 : Int32))), (2, .ref q21), (4, .ref q21), (1, .int v18), (0, .ref qa1)]) hx hb dX11_alike_90 hl (k := 2) rfl rfl (by decide) rfl (fun ls hl => ?_)
      refine lv_goto (tgt := 34) hx hb dX11_alike_93 (by decide) ?_
      exact ih12 (cv12 + 1) (sv12 + 32) (by omega) (by omega) (v14 + (1 : Int32)) q21 v18.toNatClampNeg f40 hq21 H locs ls hw (lv_sub hl [0, 1, 3, 4] rfl) h
  exact L12 ((nI na1) / (4 : Int32)) n41 1 32 (by omega) (by omega) (0 : Int32) q2 (((nI na1) / (4 : Int32)).toNatClampNeg) f12 hq2 H locs ls hw (lv_sub hl [0, 1, 2, 3] rfl) h
def wpl_X11_least_77 (fa1 : Nat → Int32) (na1 : Nat) (f3 : Nat → Int32) (n2 : Nat) (f23 : Nat → Int32) (n11 : Nat) (f24 : Nat → Int32) (n13 : Nat) (v30 : Int32) (v31 : Int32) (v32 : Int32) (v33 : Int32) (K103 : Int32 → Prop) : Nat → Int32 → Prop
  | 0, _ => False
  | n + 1, v29 =>
    (v33 ≤ v29 → (K103 v29)) ∧ (¬ v33 ≤ v29 → (vp_in v29 n11 ∧ (vp_in (f23 v29.toNatClampNeg) n2 ∧ (vp_in v30 n2 ∧ (((f3 (f23 v29.toNatClampNeg).toNatClampNeg) = (f3 v30.toNatClampNeg) → (K103 v29)) ∧ (¬ (f3 (f23 v29.toNatClampNeg).toNatClampNeg) = (f3 v30.toNatClampNeg) → (wpl_X11_least_77 fa1 na1 f3 n2 f23 n11 f24 n13 v30 v31 v32 v33 K103 n (v29 + (1 : Int32)))))))))
def wpl_X11_least_55 (fa1 : Nat → Int32) (na1 : Nat) (f3 : Nat → Int32) (n2 : Nat) (n11 : Nat) (n13 : Nat) (v21 : Int32) (K136 : Int32 → (Nat → Int32) → (Nat → Int32) → Prop) : Nat → Int32 → Int32 → (Nat → Int32) → (Nat → Int32) → Prop
  | 0, _, _, _, _ => False
  | n + 1, v20, v22, f23, f24 =>
    ((3 : Int32) ≤ v20 → (K136 v22 f23 f24)) ∧ (¬ (3 : Int32) ≤ v20 → (vp_in v21 n11 ∧ (vp_in (((4 : Int32) * (f23 v21.toNatClampNeg)) + v20) na1 ∧ (∃ n27x, wpl_X11_least_77 fa1 na1 f3 n2 f23 n11 f24 n13 (fa1 (((4 : Int32) * (f23 v21.toNatClampNeg)) + v20).toNatClampNeg) v20 v21 v22 (fun (u40 : Int32) => ∀ J41 : Int32 → (Nat → Int32) → Prop, (∀ (j42 : Int32) (f43 : Nat → Int32), (vp_in (((4 : Int32) * v21) + v20) n13 ∧ (wpl_X11_least_55 fa1 na1 f3 n2 n11 n13 v21 K136 n (v20 + (1 : Int32)) j42 f43 (upd f24 (((4 : Int32) * v21) + v20).toNatClampNeg u40))) → J41 j42 f43) → ((¬ u40 = v22 → (J41 v22 f23)) ∧ (u40 = v22 → (vp_in v22 n11 ∧ (J41 (v22 + (1 : Int32)) (upd f23 v22.toNatClampNeg (fa1 (((4 : Int32) * (f23 v21.toNatClampNeg)) + v20).toNatClampNeg))))))) n27x (0 : Int32)))))
def wpl_X11_least_27 (fa1 : Nat → Int32) (na1 : Nat) (f3 : Nat → Int32) (n2 : Nat) (n11 : Nat) (n13 : Nat) (K142 : Int32 → (Nat → Int32) → Prop) : Nat → Int32 → Int32 → (Nat → Int32) → (Nat → Int32) → Prop
  | 0, _, _, _, _ => False
  | n + 1, v9, v10, f14, f12 =>
    (v10 ≤ v9 → (K142 v10 f14)) ∧ (¬ v10 ≤ v9 → (vp_in v9 n11 ∧ (vp_in (((4 : Int32) * (f12 v9.toNatClampNeg)) + (3 : Int32)) na1 ∧ (vp_in (((4 : Int32) * v9) + (3 : Int32)) n13 ∧ (∃ n18x, wpl_X11_least_55 fa1 na1 f3 n2 n11 n13 v9 (fun (u48 : Int32) (f49 : Nat → Int32) (f50 : Nat → Int32) => wpl_X11_least_27 fa1 na1 f3 n2 n11 n13 K142 n (v9 + (1 : Int32)) u48 f50 f49) n18x (0 : Int32) v10 f12 (upd f14 (((4 : Int32) * v9) + (3 : Int32)).toNatClampNeg (fa1 (((4 : Int32) * (f12 v9.toNatClampNeg)) + (3 : Int32)).toNatClampNeg)))))))
def wp_X11_least (na1 : Nat) (fa1 : Nat → Int32) (Q : Option AI → Prop) : Prop :=
  wp_X11_alike na1 fa1 (fun (n2 : Nat) (f3 : Nat → Int32) => (¬ (nI n2) < 0 ∧ (nI n2).toNatClampNeg ≤ 32) ∧ ((¬ (nI na1) < 0 ∧ (nI na1).toNatClampNeg ≤ 128) ∧ (∃ n7x, wpl_X11_least_27 fa1 na1 f3 n2 ((nI n2).toNatClampNeg) ((nI na1).toNatClampNeg) (fun (u52 : Int32) (f53 : Nat → Int32) => wp_X11_part ((nI na1).toNatClampNeg) f53 ((4 : Int32) * u52) (fun (n55 : Nat) (f56 : Nat → Int32) => Q (some (n55, f56)))) n7x (0 : Int32) (1 : Int32) (fun _ => 0) (fun _ => 0))))
set_option maxHeartbeats 4000000 in
set_option maxRecDepth 100000 in
theorem c_X11_least {l : Launch} {D : va_G} {cI cL : ClassId} (qa1 : Nat)  (sz : Nat) (na1 : Nat) (fa1 : Nat → Int32)  {Q : Option AI → Prop} (h : wp_X11_least na1 fa1 Q) : SMA l yX11_least (.code yX11_least cX11_least 9 (Option.some (Jvm.ClassFile.FieldType.array Jvm.ClassFile.FieldType.int))) 2 37 1376 [.ref qa1] D cI cL sz [eI cI qa1 na1 fa1] Q := by
  refine S_metA (by decide +kernel) (Nat.le_of_ble_eq_true rfl) ?_
  intro p e s m below meth c Z ls hx hb hml hown ht hK hP0 hw hret hretN hl
  have hl : lv_has ls 9 [(0, .ref qa1)] := hl
  have hL0 := va_Ph hP0
  have hB0 : ¬ SA s.heap.size qa1 := fun z => absurd hL0.lt (Nat.not_lt.mpr z)
  suffices hh : ∀ (H : Heap) (locs : List Loc), MW D [] [] (SA s.heap.size) s H locs → W p l e (RA 2 37 1376) s m #[.ref qa1] below meth c H locs 0 0 Z (F0 m 0 ls []) from hh _ _ hw
  intro H locs hw
  change wp_X11_alike na1 fa1 (fun (n2 : Nat) (f3 : Nat → Int32) => (¬ (nI n2) < 0 ∧ (nI n2).toNatClampNeg ≤ 32) ∧ ((¬ (nI na1) < 0 ∧ (nI na1).toNatClampNeg ≤ 128) ∧ (∃ n7x, wpl_X11_least_27 fa1 na1 f3 n2 ((nI n2).toNatClampNeg) ((nI na1).toNatClampNeg) (fun (u52 : Int32) (f53 : Nat → Int32) => wp_X11_part ((nI na1).toNatClampNeg) f53 ((4 : Int32) * u52) (fun (n55 : Nat) (f56 : Nat → Int32) => Q (some (n55, f56)))) n7x (0 : Int32) (1 : Int32) (fun _ => 0) (fun _ => 0)))) at h
  refine lv_aload_n hx hb dX11_least_0 rfl (lv_at hl 0 rfl) ?_
  refine lv_ifnonnull (tgt := 6) hx hb dX11_least_1 (by decide) ?_
  refine lv_aload_n hx hb dX11_least_6 rfl (lv_at hl 0 rfl) ?_
  refine S_callA hw (va_runS (own := "LeastreaderModel") (As := [.ref qa1]) (rest := []) ⟨hx, hb, hml, hown, ht⟩ (c_X11_alike qa1 H.size na1 fa1 h) (va_cwS 1 ht (G_S q_1469 q_1470 q_56 q_1471) rfl rfl rfl hd_85 ⟨Nat.le_of_ble_eq_true rfl, Nat.le_of_ble_eq_true rfl⟩) ⟨SB.blind, SB.pre hK (va_Pc2 (hw.arg hL0 hB0) va_P0)⟩ rfl rfl hl.1 rfl (lv_room (Nat.le_of_ble_eq_true rfl)) dX11_least_7 ⟨show 0 + 34 ≤ 37 by omega, show 0 + 1088 ≤ 1376 by omega⟩) (fun _ _ h _ => by obtain ⟨_, _, h, _⟩ := h; cases h) (fun q1 n2 f3 H locs hq1 h hw => ?_)
  obtain ⟨_, _, e9, h⟩ := h
  cases e9
  have hw : MW D [] [eI cI q1 n2 f3] (SA s.heap.size) s H locs := hw
  refine lv_astore_n (lv' := [(1, .ref q1), (0, .ref qa1)]) hx hb dX11_least_10 rfl hl (by decide) rfl (fun ls hl => ?_)
  refine lv_aload_n hx hb dX11_least_11 rfl (lv_at hl 0 rfl) ?_
  refine n_alenI hx hb hK (hw.n (j := 0) rfl) dX11_least_12 ?_
  obtain ⟨z4, h⟩ := h
  refine n_newI (B := 32) hx hb ht q_128 hK hw z4 (by decide) (show 34 + 1 ≤ 37 by omega) (show 1088 + 32 ≤ 1376 by omega) dX11_least_13 (fun q5 H hq5 hw => ?_)
  have hw : MW D [] [eI cI q1 n2 f3, eI cI q5 ((nI n2).toNatClampNeg) (fun _ => 0)] (SA s.heap.size) s H locs := hw
  refine lv_astore_n (lv' := [(2, .ref q5), (1, .ref q1), (0, .ref qa1)]) hx hb dX11_least_15 rfl hl (by decide) rfl (fun ls hl => ?_)
  refine lv_aload_n hx hb dX11_least_16 rfl (lv_at hl 2 rfl) ?_
  refine n_alenI hx hb hK (hw.arg hL0 hB0) dX11_least_17 ?_
  obtain ⟨z6, h⟩ := h
  refine n_newI (B := 128) hx hb ht q_128 hK hw z6 (by decide) (show 35 + 1 ≤ 37 by omega) (show 1120 + 128 ≤ 1376 by omega) dX11_least_18 (fun q7 H hq7 hw => ?_)
  have hw : MW D [] [eI cI q1 n2 f3, eI cI q5 ((nI n2).toNatClampNeg) (fun _ => 0), eI cI q7 ((nI na1).toNatClampNeg) (fun _ => 0)] (SA s.heap.size) s H locs := hw
  refine lv_astore_n (lv' := [(3, .ref q7), (2, .ref q5), (1, .ref q1), (0, .ref qa1)]) hx hb dX11_least_20 rfl hl (by decide) rfl (fun ls hl => ?_)
  refine lv_iconst (v := (1 : Int32)) hx hb dX11_least_21 (by decide) ?_
  refine lv_istore (lv' := [(4, .int (1 : Int32)), (3, .ref q7), (2, .ref q5), (1, .ref q1), (0, .ref qa1)]) hx hb dX11_least_22 hl (by decide) rfl (fun ls hl => ?_)
  refine lv_iconst (v := (0 : Int32)) hx hb dX11_least_24 (by decide) ?_
  refine lv_istore (lv' := [(5, .int (0 : Int32)), (4, .int (1 : Int32)), (3, .ref q7), (2, .ref q5), (1, .ref q1), (0, .ref qa1)]) hx hb dX11_least_25 hl (by decide) rfl (fun ls hl => ?_)
  obtain ⟨n51, h⟩ := h
  have L7 : ∀ (n11 : Nat) (n13 : Nat) (K142 : Int32 → (Nat → Int32) → Prop), (∀ (v10 : Int32) (f14 : Nat → Int32), ∀ (H : Heap) (locs : List Loc) (ls : Array Slot), MW D [] [eI cI q7 n13 f14] (SA s.heap.size) s H locs → lv_has ls 9 [(4, .int v10), (3, .ref q7)] → K142 v10 f14 → W p l e (RA 2 37 1376) s m #[.ref qa1] below meth c H locs 36 1248 Z (F0 m 142 ls [])) → ∀ (n : Nat), ∀ (v9 : Int32) (v10 : Int32) (f14 : Nat → Int32) (f12 : Nat → Int32), ∀ (H : Heap) (locs : List Loc) (ls : Array Slot), MW D [] [eI cI q1 n2 f3, eI cI q5 n11 f12, eI cI q7 n13 f14] (SA s.heap.size) s H locs → lv_has ls 9 [(5, .int v9), (4, .int v10), (3, .ref q7), (2, .ref q5), (1, .ref q1), (0, .ref qa1)] → wpl_X11_least_27 fa1 na1 f3 n2 n11 n13 K142 n v9 v10 f14 f12 → W p l e (RA 2 37 1376) s m #[.ref qa1] below meth c H locs 36 1248 Z (F0 m 27 ls []) := by
    intro n11 n13 K142 hK142
    intro n
    induction n with
    | zero => intro v9 v10 f14 f12 H locs ls hw hl h; exact False.elim h
    | succ n ih7 =>
      intro v9 v10 f14 f12 H locs ls hw hl h
      change (v10 ≤ v9 → (K142 v10 f14)) ∧ (¬ v10 ≤ v9 → (vp_in v9 n11 ∧ (vp_in (((4 : Int32) * (f12 v9.toNatClampNeg)) + (3 : Int32)) na1 ∧ (vp_in (((4 : Int32) * v9) + (3 : Int32)) n13 ∧ (∃ n18x, wpl_X11_least_55 fa1 na1 f3 n2 n11 n13 v9 (fun (u48 : Int32) (f49 : Nat → Int32) (f50 : Nat → Int32) => wpl_X11_least_27 fa1 na1 f3 n2 n11 n13 K142 n (v9 + (1 : Int32)) u48 f50 f49) n18x (0 : Int32) v10 f12 (upd f14 (((4 : Int32) * v9) + (3 : Int32)).toNatClampNeg (fa1 (((4 : Int32) * (f12 v9.toNatClampNeg)) + (3 : Int32)).toNatClampNeg))))))) at h
      refine lv_iload hx hb dX11_least_27 (lv_at hl 0 rfl) ?_
      refine lv_iload hx hb dX11_least_29 (lv_at hl 1 rfl) ?_
      refine lv_icmp_ge (tgt := 142) hx hb dX11_least_31 (by decide) (fun c15 => ?_) (fun c15 => ?_)
      · have h := h.1 c15
        exact hK142 v10 f14 H locs ls (hw.sub [2] (by decide) rfl) (lv_sub hl [1, 2] rfl) h
      have h := h.2 c15
      refine lv_aload_n hx hb dX11_least_34 rfl (lv_at hl 2 rfl) ?_
      refine lv_iconst (v := (4 : Int32)) hx hb dX11_least_35 (by decide) ?_
      refine lv_iload hx hb dX11_least_36 (lv_at hl 0 rfl) ?_
      refine lv_imul hx hb dX11_least_38 ?_
      refine lv_iconst (v := (3 : Int32)) hx hb dX11_least_39 (by decide) ?_
      refine lv_iadd hx hb dX11_least_40 ?_
      refine lv_aload_n hx hb dX11_least_41 rfl (lv_at hl 5 rfl) ?_
      refine lv_iconst (v := (4 : Int32)) hx hb dX11_least_42 (by decide) ?_
      refine lv_aload_n hx hb dX11_least_43 rfl (lv_at hl 3 rfl) ?_
      refine lv_iload hx hb dX11_least_44 (lv_at hl 0 rfl) ?_
      obtain ⟨z16, h⟩ := h
      refine n_iald hx hb hK (hw.n (j := 1) rfl) z16 dX11_least_46 ?_
      refine lv_imul hx hb dX11_least_47 ?_
      refine lv_iconst (v := (3 : Int32)) hx hb dX11_least_48 (by decide) ?_
      refine lv_iadd hx hb dX11_least_49 ?_
      obtain ⟨z17, h⟩ := h
      refine n_iald hx hb hK (hw.arg hL0 hB0) z17 dX11_least_50 ?_
      obtain ⟨z18, h⟩ := h
      refine n_iast (j := 2) hx hb hK hw rfl z18 dX11_least_51 (fun H locs hw => ?_)
      have hw : MW D [] [eI cI q1 n2 f3, eI cI q5 n11 f12, eI cI q7 n13 (upd f14 (((4 : Int32) * v9) + (3 : Int32)).toNatClampNeg (fa1 (((4 : Int32) * (f12 v9.toNatClampNeg)) + (3 : Int32)).toNatClampNeg))] (SA s.heap.size) s H locs := hw
      refine lv_iconst (v := (0 : Int32)) hx hb dX11_least_52 (by decide) ?_
      refine lv_istore (lv' := [(6, .int (0 : Int32)), (5, .int v9), (4, .int v10), (3, .ref q7), (2, .ref q5), (1, .ref q1), (0, .ref qa1)]) hx hb dX11_least_53 hl (by decide) rfl (fun ls hl => ?_)
      obtain ⟨n47, h⟩ := h
      have L18 : ∀ (v21 : Int32) (K136 : Int32 → (Nat → Int32) → (Nat → Int32) → Prop), (∀ (v22 : Int32) (f23 : Nat → Int32) (f24 : Nat → Int32), ∀ (H : Heap) (locs : List Loc) (ls : Array Slot), MW D [] [eI cI q1 n2 f3, eI cI q5 n11 f23, eI cI q7 n13 f24] (SA s.heap.size) s H locs → lv_has ls 9 [(5, .int v21), (4, .int v22), (3, .ref q7), (2, .ref q5), (1, .ref q1), (0, .ref qa1)] → K136 v22 f23 f24 → W p l e (RA 2 37 1376) s m #[.ref qa1] below meth c H locs 36 1248 Z (F0 m 136 ls [])) → ∀ (n : Nat), ∀ (v20 : Int32) (v22 : Int32) (f23 : Nat → Int32) (f24 : Nat → Int32), ∀ (H : Heap) (locs : List Loc) (ls : Array Slot), MW D [] [eI cI q1 n2 f3, eI cI q5 n11 f23, eI cI q7 n13 f24] (SA s.heap.size) s H locs → lv_has ls 9 [(6, .int v20), (5, .int v21), (4, .int v22), (3, .ref q7), (2, .ref q5), (1, .ref q1), (0, .ref qa1)] → wpl_X11_least_55 fa1 na1 f3 n2 n11 n13 v21 K136 n v20 v22 f23 f24 → W p l e (RA 2 37 1376) s m #[.ref qa1] below meth c H locs 36 1248 Z (F0 m 55 ls []) := by
        intro v21 K136 hK136
        intro n
        induction n with
        | zero => intro v20 v22 f23 f24 H locs ls hw hl h; exact False.elim h
        | succ n ih18 =>
          intro v20 v22 f23 f24 H locs ls hw hl h
          change ((3 : Int32) ≤ v20 → (K136 v22 f23 f24)) ∧ (¬ (3 : Int32) ≤ v20 → (vp_in v21 n11 ∧ (vp_in (((4 : Int32) * (f23 v21.toNatClampNeg)) + v20) na1 ∧ (∃ n27x, wpl_X11_least_77 fa1 na1 f3 n2 f23 n11 f24 n13 (fa1 (((4 : Int32) * (f23 v21.toNatClampNeg)) + v20).toNatClampNeg) v20 v21 v22 (fun (u40 : Int32) => ∀ J41 : Int32 → (Nat → Int32) → Prop, (∀ (j42 : Int32) (f43 : Nat → Int32), (vp_in (((4 : Int32) * v21) + v20) n13 ∧ (wpl_X11_least_55 fa1 na1 f3 n2 n11 n13 v21 K136 n (v20 + (1 : Int32)) j42 f43 (upd f24 (((4 : Int32) * v21) + v20).toNatClampNeg u40))) → J41 j42 f43) → ((¬ u40 = v22 → (J41 v22 f23)) ∧ (u40 = v22 → (vp_in v22 n11 ∧ (J41 (v22 + (1 : Int32)) (upd f23 v22.toNatClampNeg (fa1 (((4 : Int32) * (f23 v21.toNatClampNeg)) + v20).toNatClampNeg))))))) n27x (0 : Int32))))) at h
          refine lv_iload hx hb dX11_least_55 (lv_at hl 0 rfl) ?_
          refine lv_iconst (v := (3 : Int32)) hx hb dX11_least_57 (by decide) ?_
          refine lv_icmp_ge (tgt := 136) hx hb dX11_least_58 (by decide) (fun c25 => ?_) (fun c25 => ?_)
          · have h := h.1 c25
            exact hK136 v22 f23 f24 H locs ls hw (lv_sub hl [1, 2, 3, 4, 5, 6] rfl) h
          have h := h.2 c25
          refine lv_aload_n hx hb dX11_least_61 rfl (lv_at hl 6 rfl) ?_
          refine lv_iconst (v := (4 : Int32)) hx hb dX11_least_62 (by decide) ?_
          refine lv_aload_n hx hb dX11_least_63 rfl (lv_at hl 4 rfl) ?_
          refine lv_iload hx hb dX11_least_64 (lv_at hl 1 rfl) ?_
          obtain ⟨z26, h⟩ := h
          refine n_iald hx hb hK (hw.n (j := 1) rfl) z26 dX11_least_66 ?_
          refine lv_imul hx hb dX11_least_67 ?_
          refine lv_iload hx hb dX11_least_68 (lv_at hl 0 rfl) ?_
          refine lv_iadd hx hb dX11_least_70 ?_
          obtain ⟨z27, h⟩ := h
          refine n_iald hx hb hK (hw.arg hL0 hB0) z27 dX11_least_71 ?_
          refine lv_istore (lv' := [(7, .int (fa1 (((4 : Int32) * (f23 v21.toNatClampNeg)) + v20).toNatClampNeg)), (6, .int v20), (5, .int v21), (4, .int v22), (3, .ref q7), (2, .ref q5), (1, .ref q1), (0, .ref qa1)]) hx hb dX11_least_72 hl (by decide) rfl (fun ls hl => ?_)
          refine lv_iconst (v := (0 : Int32)) hx hb dX11_least_74 (by decide) ?_
          refine lv_istore (lv' := [(8, .int (0 : Int32)), (7, .int (fa1 (((4 : Int32) * (f23 v21.toNatClampNeg)) + v20).toNatClampNeg)), (6, .int v20), (5, .int v21), (4, .int v22), (3, .ref q7), (2, .ref q5), (1, .ref q1), (0, .ref qa1)]) hx hb dX11_least_75 hl (by decide) rfl (fun ls hl => ?_)
          obtain ⟨n39, h⟩ := h
          have L27 : ∀ (v30 : Int32) (v31 : Int32) (v32 : Int32) (v33 : Int32) (K103 : Int32 → Prop), (∀ (v29 : Int32), ∀ (H : Heap) (locs : List Loc) (ls : Array Slot), MW D [] [eI cI q1 n2 f3, eI cI q5 n11 f23, eI cI q7 n13 f24] (SA s.heap.size) s H locs → lv_has ls 9 [(8, .int v29), (7, .int v30), (6, .int v31), (5, .int v32), (4, .int v33), (3, .ref q7), (2, .ref q5), (1, .ref q1), (0, .ref qa1)] → K103 v29 → W p l e (RA 2 37 1376) s m #[.ref qa1] below meth c H locs 36 1248 Z (F0 m 103 ls [])) → ∀ (n : Nat), ∀ (v29 : Int32), ∀ (H : Heap) (locs : List Loc) (ls : Array Slot), MW D [] [eI cI q1 n2 f3, eI cI q5 n11 f23, eI cI q7 n13 f24] (SA s.heap.size) s H locs → lv_has ls 9 [(8, .int v29), (7, .int v30), (6, .int v31), (5, .int v32), (4, .int v33), (3, .ref q7), (2, .ref q5), (1, .ref q1), (0, .ref qa1)] → wpl_X11_least_77 fa1 na1 f3 n2 f23 n11 f24 n13 v30 v31 v32 v33 K103 n v29 → W p l e (RA 2 37 1376) s m #[.ref qa1] below meth c H locs 36 1248 Z (F0 m 77 ls []) := by
            intro v30 v31 v32 v33 K103 hK103
            intro n
            induction n with
            | zero => intro v29 H locs ls hw hl h; exact False.elim h
            | succ n ih27 =>
              intro v29 H locs ls hw hl h
              change (v33 ≤ v29 → (K103 v29)) ∧ (¬ v33 ≤ v29 → (vp_in v29 n11 ∧ (vp_in (f23 v29.toNatClampNeg) n2 ∧ (vp_in v30 n2 ∧ (((f3 (f23 v29.toNatClampNeg).toNatClampNeg) = (f3 v30.toNatClampNeg) → (K103 v29)) ∧ (¬ (f3 (f23 v29.toNatClampNeg).toNatClampNeg) = (f3 v30.toNatClampNeg) → (wpl_X11_least_77 fa1 na1 f3 n2 f23 n11 f24 n13 v30 v31 v32 v33 K103 n (v29 + (1 : Int32))))))))) at h
              refine lv_iload hx hb dX11_least_77 (lv_at hl 0 rfl) ?_
              refine lv_iload hx hb dX11_least_79 (lv_at hl 4 rfl) ?_
              refine lv_icmp_ge (tgt := 103) hx hb dX11_least_81 (by decide) (fun c34 => ?_) (fun c34 => ?_)
              · have h := h.1 c34
                exact hK103 v29 H locs ls hw (lv_sub hl [0, 1, 2, 3, 4, 5, 6, 7, 8] rfl) h
              have h := h.2 c34
              refine lv_aload_n hx hb dX11_least_84 rfl (lv_at hl 7 rfl) ?_
              refine lv_aload_n hx hb dX11_least_85 rfl (lv_at hl 6 rfl) ?_
              refine lv_iload hx hb dX11_least_86 (lv_at hl 0 rfl) ?_
              obtain ⟨z35, h⟩ := h
              refine n_iald hx hb hK (hw.n (j := 1) rfl) z35 dX11_least_88 ?_
              obtain ⟨z36, h⟩ := h
              refine n_iald hx hb hK (hw.n (j := 0) rfl) z36 dX11_least_89 ?_
              refine lv_aload_n hx hb dX11_least_90 rfl (lv_at hl 7 rfl) ?_
              refine lv_iload hx hb dX11_least_91 (lv_at hl 1 rfl) ?_
              obtain ⟨z37, h⟩ := h
              refine n_iald hx hb hK (hw.n (j := 0) rfl) z37 dX11_least_93 ?_
              refine lv_icmp_eq (tgt := 103) hx hb dX11_least_94 (by decide) (fun c38 => ?_) (fun c38 => ?_)
              · have h := h.1 c38
                exact hK103 v29 H locs ls hw (lv_sub hl [0, 1, 2, 3, 4, 5, 6, 7, 8] rfl) h
              have h := h.2 c38
              refine lv_iinc (v := (v29 + (1 : Int32))) (lv' := [(8, .int (v29 + (1 : Int32))), (7, .int v30), (6, .int v31), (5, .int v32), (4, .int v33), (3, .ref q7), (2, .ref q5), (1, .ref q1), (0, .ref qa1)]) hx hb dX11_least_97 hl (k := 0) rfl rfl (by decide) rfl (fun ls hl => ?_)
              refine lv_goto (tgt := 77) hx hb dX11_least_100 (by decide) ?_
              exact ih27 (v29 + (1 : Int32)) H locs ls hw (lv_sub hl [0, 1, 2, 3, 4, 5, 6, 7, 8] rfl) h
          refine L27 (fa1 (((4 : Int32) * (f23 v21.toNatClampNeg)) + v20).toNatClampNeg) v20 v21 v22 _ ?_ n39 (0 : Int32) H locs ls hw (lv_sub hl [0, 1, 2, 3, 4, 5, 6, 7, 8] rfl) h
          intro u40 H locs ls hw hl h
          refine lv_iload hx hb dX11_least_103 (lv_at hl 0 rfl) ?_
          refine lv_iload hx hb dX11_least_105 (lv_at hl 4 rfl) ?_
          have h := h (fun (j42 : Int32) (f43 : Nat → Int32) => ∀ (H : Heap) (locs : List Loc) (ls : Array Slot), MW D [] [eI cI q1 n2 f3, eI cI q5 n11 f43, eI cI q7 n13 f24] (SA s.heap.size) s H locs → lv_has ls 9 [(8, .int u40), (6, .int v20), (5, .int v21), (4, .int j42), (3, .ref q7), (2, .ref q5), (1, .ref q1), (0, .ref qa1)] → W p l e (RA 2 37 1376) s m #[.ref qa1] below meth c H locs 36 1248 Z (F0 m 119 ls [])) (fun j42 f43 h H locs ls hw hl => by
            refine lv_aload_n hx hb dX11_least_119 rfl (lv_at hl 4 rfl) ?_
            refine lv_iconst (v := (4 : Int32)) hx hb dX11_least_120 (by decide) ?_
            refine lv_iload hx hb dX11_least_121 (lv_at hl 2 rfl) ?_
            refine lv_imul hx hb dX11_least_123 ?_
            refine lv_iload hx hb dX11_least_124 (lv_at hl 1 rfl) ?_
            refine lv_iadd hx hb dX11_least_126 ?_
            refine lv_iload hx hb dX11_least_127 (lv_at hl 0 rfl) ?_
            obtain ⟨z44, h⟩ := h
            refine n_iast (j := 2) hx hb hK hw rfl z44 dX11_least_129 (fun H locs hw => ?_)
            have hw : MW D [] [eI cI q1 n2 f3, eI cI q5 n11 f43, eI cI q7 n13 (upd f24 (((4 : Int32) * v21) + v20).toNatClampNeg u40)] (SA s.heap.size) s H locs := hw
            refine lv_iinc (v := (v20 + (1 : Int32))) (lv' := [(6, .int (v20 + (1 : Int32))), (8, .int u40), (5, .int v21), (4, .int j42), (3, .ref q7), (2, .ref q5), (1, .ref q1), (0, .ref qa1)]) hx hb dX11_least_130 hl (k := 1) rfl rfl (by decide) rfl (fun ls hl => ?_)
            refine lv_goto (tgt := 55) hx hb dX11_least_133 (by decide) ?_
            exact ih18 (v20 + (1 : Int32)) j42 f43 (upd f24 (((4 : Int32) * v21) + v20).toNatClampNeg u40) H locs ls hw (lv_sub hl [0, 2, 3, 4, 5, 6, 7] rfl) h)
          refine lv_icmp_ne (tgt := 119) hx hb dX11_least_107 (by decide) (fun c45 => ?_) (fun c45 => ?_)
          · have h := h.1 c45
            exact h H locs ls hw (lv_sub hl [0, 2, 3, 4, 5, 6, 7, 8] rfl)
          have h := h.2 c45
          refine lv_aload_n hx hb dX11_least_110 rfl (lv_at hl 6 rfl) ?_
          refine lv_iload hx hb dX11_least_111 (lv_at hl 4 rfl) ?_
          refine lv_iinc (v := (v22 + (1 : Int32))) (lv' := [(4, .int (v22 + (1 : Int32))), (8, .int u40), (7, .int (fa1 (((4 : Int32) * (f23 v21.toNatClampNeg)) + v20).toNatClampNeg)), (6, .int v20), (5, .int v21), (3, .ref q7), (2, .ref q5), (1, .ref q1), (0, .ref qa1)]) hx hb dX11_least_113 hl (k := 4) rfl rfl (by decide) rfl (fun ls hl => ?_)
          refine lv_iload hx hb dX11_least_116 (lv_at hl 2 rfl) ?_
          obtain ⟨z46, h⟩ := h
          refine n_iast (j := 1) hx hb hK hw rfl z46 dX11_least_118 (fun H locs hw => ?_)
          have hw : MW D [] [eI cI q1 n2 f3, eI cI q5 n11 (upd f23 v22.toNatClampNeg (fa1 (((4 : Int32) * (f23 v21.toNatClampNeg)) + v20).toNatClampNeg)), eI cI q7 n13 f24] (SA s.heap.size) s H locs := hw
          exact h H locs ls hw (lv_sub hl [1, 3, 4, 0, 5, 6, 7, 8] rfl)
      refine L18 v9 _ ?_ n47 (0 : Int32) v10 f12 (upd f14 (((4 : Int32) * v9) + (3 : Int32)).toNatClampNeg (fa1 (((4 : Int32) * (f12 v9.toNatClampNeg)) + (3 : Int32)).toNatClampNeg)) H locs ls hw (lv_sub hl [0, 1, 2, 3, 4, 5, 6] rfl) h
      intro u48 f49 f50 H locs ls hw hl h
      refine lv_iinc (v := (v9 + (1 : Int32))) (lv' := [(5, .int (v9 + (1 : Int32))), (4, .int u48), (3, .ref q7), (2, .ref q5), (1, .ref q1), (0, .ref qa1)]) hx hb dX11_least_136 hl (k := 0) rfl rfl (by decide) rfl (fun ls hl => ?_)
      refine lv_goto (tgt := 27) hx hb dX11_least_139 (by decide) ?_
      exact ih7 (v9 + (1 : Int32)) u48 f50 f49 H locs ls hw (lv_sub hl [0, 1, 2, 3, 4, 5] rfl) h
  refine L7 ((nI n2).toNatClampNeg) ((nI na1).toNatClampNeg) _ ?_ n51 (0 : Int32) (1 : Int32) (fun _ => 0) (fun _ => 0) H locs ls hw (lv_sub hl [0, 1, 2, 3, 4, 5] rfl) h
  intro u52 f53 H locs ls hw hl h
  refine lv_aload_n hx hb dX11_least_142 rfl (lv_at hl 1 rfl) ?_
  refine lv_iconst (v := (4 : Int32)) hx hb dX11_least_143 (by decide) ?_
  refine lv_iload hx hb dX11_least_144 (lv_at hl 0 rfl) ?_
  refine lv_imul hx hb dX11_least_146 ?_
  refine S_callA hw (va_runS (own := "LeastreaderModel") (As := [.ref q7, .int ((4 : Int32) * u52)]) (rest := []) ⟨hx, hb, hml, hown, ht⟩ (c_X11_part q7 H.size ((nI na1).toNatClampNeg) f53 ((4 : Int32) * u52) h) (va_cwS 2 ht (G_S q_1459 q_1460 q_56 q_1461) rfl rfl rfl hd_81 ⟨Nat.le_of_ble_eq_true rfl, Nat.le_of_ble_eq_true rfl⟩) ⟨SB.blind, SB.pre hK (va_Pc2 (hw.n (j := 0) rfl) va_P0)⟩ rfl rfl hl.1 rfl (lv_room (Nat.le_of_ble_eq_true rfl)) dX11_least_147 ⟨show 36 + 1 ≤ 37 by omega, show 1248 + 128 ≤ 1376 by omega⟩) (fun _ _ h _ => by obtain ⟨_, _, h, _⟩ := h; cases h) (fun q54 n55 f56 H locs hq54 h hw => ?_)
  obtain ⟨_, _, e9, h⟩ := h
  cases e9
  have hw : MW D [] [eI cI q7 ((nI na1).toNatClampNeg) f53, eI cI q54 n55 f56] (SA s.heap.size) s H locs := hw
  exact hret H locs ls 150 _ _ _ 1 _ _ _ hw rfl hq54 h (show 37 ≤ 37 by omega) (show 1376 ≤ 1376 by omega) dX11_least_150
def wp_X11_least_n  (Q : Option AI → Prop) : Prop :=
  Q none
set_option maxHeartbeats 4000000 in
set_option maxRecDepth 100000 in
theorem c_X11_least_n {l : Launch} {D : va_G} {cI cL : ClassId}   (sz : Nat)   {Q : Option AI → Prop} (h : wp_X11_least_n Q) : SMA l yX11_least (.code yX11_least cX11_least 9 (Option.some (Jvm.ClassFile.FieldType.array Jvm.ClassFile.FieldType.int))) 2 0 0 [.null] D cI cL sz [] Q := by
  refine S_metA (by decide +kernel) (Nat.le_of_ble_eq_true rfl) ?_
  intro p e s m below meth c Z ls hx hb hml hown ht hK hP0 hw hret hretN hl
  have hl : lv_has ls 9 [(0, .null)] := hl
  suffices hh : ∀ (H : Heap) (locs : List Loc), MW D [] [] (SA s.heap.size) s H locs → W p l e (RA 2 0 0) s m #[.null] below meth c H locs 0 0 Z (F0 m 0 ls []) from hh _ _ hw
  intro H locs hw
  change Q none at h
  refine lv_aload_nN hx hb dX11_least_0 rfl (lv_at hl 0 rfl) ?_
  refine lv_ifnonnullN hx hb dX11_least_1 ?_
  refine lv_null hx hb dX11_least_4 ?_
  exact hretN H locs ls 5 _ _ _ hw h (show 0 ≤ 0 by omega) (show 0 ≤ 0 by omega) dX11_least_5
def wpl_X11_turnedTwice_63 (μ : TMem) (n18 : Nat) (f11 : Nat → Int32) (n10 : Nat) (v23 : Int32) (v24 : Int64) (v25 : Int32) (K96 : (Nat → Int64) → Prop) : Nat → Int32 → (Nat → Int64) → Prop
  | 0, _, _ => False
  | n + 1, v22, f26 =>
    ((3 : Int32) ≤ v22 → (K96 f26)) ∧ (¬ (3 : Int32) ≤ v22 → (vp_in (((4 : Int32) * v23) + v22) n10 ∧ (vp_in (((3 : Int32) * v23) + v22) n18 ∧ (wpl_X11_turnedTwice_63 μ n18 f11 n10 v23 v24 v25 K96 n (v22 + (1 : Int32)) (vp_updL f26 (((3 : Int32) * v23) + v22).toNatClampNeg ((1 : Int64) <<< ((f11 (((4 : Int32) * v23) + v22).toNatClampNeg).toInt64 &&& 63)))))))
def wpl_X11_turnedTwice_54 (μ : TMem) (n18 : Nat) (f11 : Nat → Int32) (n10 : Nat) (v17 : Int32) (K123 : Int64 → (Nat → Int64) → Prop) : Nat → Int32 → Int64 → (Nat → Int64) → Prop
  | 0, _, _, _ => False
  | n + 1, v15, v16, f19 =>
    (v17 ≤ v15 → (K123 v16 f19)) ∧ (¬ v17 ≤ v15 → (∃ n20x, wpl_X11_turnedTwice_63 μ n18 f11 n10 v15 v16 v17 (fun (f31 : Nat → Int64) => vp_in (((4 : Int32) * v15) + (3 : Int32)) n10 ∧ ((¬ (f11 (((4 : Int32) * v15) + (3 : Int32)).toNatClampNeg) = (1 : Int32) → (wpl_X11_turnedTwice_54 μ n18 f11 n10 v17 K123 n (v15 + (1 : Int32)) v16 f31)) ∧ ((f11 (((4 : Int32) * v15) + (3 : Int32)).toNatClampNeg) = (1 : Int32) → (wpl_X11_turnedTwice_54 μ n18 f11 n10 v17 K123 n (v15 + (1 : Int32)) (v16 ||| ((1 : Int64) <<< (v15.toInt64 &&& 63))) f31)))) n20x (0 : Int32) f19))
def wp_X11_turnedTwice (μ : TMem) (a1 : Int32) (Q : Option AI → Prop) : Prop :=
  wp_X11_arrowsAll μ a1 (fun (n4 : Nat) (f5 : Nat → Int64) => vp_in a1 (ml 1) ∧ (vp_in a1 (ml 2) ∧ (vp_in a1 (ml 3) ∧ (wp_X11_oneWay n4 f5 (μ 1 a1.toNatClampNeg) ((μ 2 a1.toNatClampNeg).toInt64) ((μ 3 a1.toNatClampNeg).toInt64) (1 : Int32) (fun (r41 : Option AI) => (r41 = none → (Q none)) ∧ (∀ (n10 : Nat) (f11 : Nat → Int32), r41 = some (n10, f11) → ((¬ ((3 : Int32) * ((nI n10) / (4 : Int32))) < 0 ∧ ((3 : Int32) * ((nI n10) / (4 : Int32))).toNatClampNeg ≤ 96) ∧ (∃ n13x, wpl_X11_turnedTwice_54 μ (((3 : Int32) * ((nI n10) / (4 : Int32))).toNatClampNeg) f11 n10 ((nI n10) / (4 : Int32)) (fun (u35 : Int64) (f36 : Nat → Int64) => wp_X11_oneWay (((3 : Int32) * ((nI n10) / (4 : Int32))).toNatClampNeg) f36 ((nI n10) / (4 : Int32)) (1 : Int64) u35 (1 : Int32) (fun (r40 : Option AI) => (r40 = none → (Q none)) ∧ (∀ (n38 : Nat) (f39 : Nat → Int32), r40 = some (n38, f39) → (Q (some (n38, f39)))))) n13x (0 : Int32) (0 : Int64) (fun _ => 0)))))))))
set_option maxHeartbeats 4000000 in
set_option maxRecDepth 100000 in
theorem c_X11_turnedTwice {l : Launch} {D : va_G} {ad : Nat → Nat} {cI cL : ClassId}  (μ : TMem) (sz : Nat) (a1 : Int32)  {Q : Option AI → Prop} (h : wp_X11_turnedTwice μ a1 Q) : MMA l yX11_turnedTwice (.code yX11_turnedTwice cX11_turnedTwice 9 (Option.some (Jvm.ClassFile.FieldType.array Jvm.ClassFile.FieldType.int))) 2 8 693 [.ref (ad 0), .int a1] D ad cI cL sz μ [] (fun o μ1 => μ1 = μ ∧ Q o) := by
  refine M_metA (by decide +kernel) (Nat.le_of_ble_eq_true rfl) ?_
  intro p e s m below meth c Z ls hx hb hml hown ht hK hP0 hI hne hw hret hretN hl
  have hl : lv_has ls 9 [(0, .ref (ad 0)), (1, .int a1)] := hl
  suffices hh : ∀ (H : Heap) (locs : List Loc), MW D (MR ad cI μ) [] (MA ad s.heap.size) s H locs → W p l e (RA 2 8 693) s m #[.ref (ad 0), .int a1] below meth c H locs 0 0 Z (F0 m 0 ls []) from hh _ _ hw
  intro H locs hw
  change wp_X11_arrowsAll μ a1 (fun (n4 : Nat) (f5 : Nat → Int64) => vp_in a1 (ml 1) ∧ (vp_in a1 (ml 2) ∧ (vp_in a1 (ml 3) ∧ (wp_X11_oneWay n4 f5 (μ 1 a1.toNatClampNeg) ((μ 2 a1.toNatClampNeg).toInt64) ((μ 3 a1.toNatClampNeg).toInt64) (1 : Int32) (fun (r41 : Option AI) => (r41 = none → (Q none)) ∧ (∀ (n10 : Nat) (f11 : Nat → Int32), r41 = some (n10, f11) → ((¬ ((3 : Int32) * ((nI n10) / (4 : Int32))) < 0 ∧ ((3 : Int32) * ((nI n10) / (4 : Int32))).toNatClampNeg ≤ 96) ∧ (∃ n13x, wpl_X11_turnedTwice_54 μ (((3 : Int32) * ((nI n10) / (4 : Int32))).toNatClampNeg) f11 n10 ((nI n10) / (4 : Int32)) (fun (u35 : Int64) (f36 : Nat → Int64) => wp_X11_oneWay (((3 : Int32) * ((nI n10) / (4 : Int32))).toNatClampNeg) f36 ((nI n10) / (4 : Int32)) (1 : Int64) u35 (1 : Int32) (fun (r40 : Option AI) => (r40 = none → (Q none)) ∧ (∀ (n38 : Nat) (f39 : Nat → Int32), r40 = some (n38, f39) → (Q (some (n38, f39)))))) n13x (0 : Int32) (0 : Int64) (fun _ => 0))))))))) at h
  refine lv_aload_n hx hb dX11_turnedTwice_0 rfl (lv_at hl 0 rfl) ?_
  refine lv_iload_n hx hb dX11_turnedTwice_1 rfl (lv_at hl 1 rfl) ?_
  refine M_callL hw (MA.up hw.2.2.1.1) (va_runV (own := "LeastreaderModel") (As := [.int a1]) (rest := []) ⟨hx, hb, hml, hown, ht⟩ (c_X11_arrowsAll μ H.size a1 h) (cwV 1 ht (G_V q_1413 q_1415 q_33 q_56 q_1416) rfl rfl rfl ⟨rfl, hd_82⟩ ⟨Nat.le_of_ble_eq_true rfl, Nat.le_of_ble_eq_true rfl⟩) ⟨MB.blind, M_recv hK hw, MB.pre hK hI hw va_P0 ne0⟩ rfl rfl hl.1 rfl (lv_room (Nat.le_of_ble_eq_true rfl)) dX11_turnedTwice_2 ⟨show 0 + 1 ≤ 8 by omega, show 0 + 21 ≤ 693 by omega⟩) (fun q3 n4 f5 μ1 H locs hq3 h hw => ?_)
  obtain ⟨e2, h⟩ := h
  rw [e2] at hw
  have hw : MW D (MR ad cI μ) [eL cL q3 n4 f5] (MA ad s.heap.size) s H locs := hw
  refine lv_aload_n hx hb dX11_turnedTwice_5 rfl (lv_at hl 0 rfl) ?_
  refine m_get (i := 0) hx hb ht hown hK hw (by decide) (ht _ q_1313) rfl rfl dX11_turnedTwice_6 ?_
  refine lv_iload_n hx hb dX11_turnedTwice_9 rfl (lv_at hl 1 rfl) ?_
  obtain ⟨z6, h⟩ := h
  refine m_iald hx hb hK hw (by decide) z6 dX11_turnedTwice_10 ?_
  refine lv_aload_n hx hb dX11_turnedTwice_11 rfl (lv_at hl 0 rfl) ?_
  refine m_get (i := 1) hx hb ht hown hK hw (by decide) (ht _ q_1314) rfl rfl dX11_turnedTwice_12 ?_
  refine lv_iload_n hx hb dX11_turnedTwice_15 rfl (lv_at hl 1 rfl) ?_
  obtain ⟨z7, h⟩ := h
  refine m_iald hx hb hK hw (by decide) z7 dX11_turnedTwice_16 ?_
  refine lv_i2l hx hb dX11_turnedTwice_17 rfl ?_
  refine lv_aload_n hx hb dX11_turnedTwice_18 rfl (lv_at hl 0 rfl) ?_
  refine m_get (i := 2) hx hb ht hown hK hw (by decide) (ht _ q_1315) rfl rfl dX11_turnedTwice_19 ?_
  refine lv_iload_n hx hb dX11_turnedTwice_22 rfl (lv_at hl 1 rfl) ?_
  obtain ⟨z8, h⟩ := h
  refine m_iald hx hb hK hw (by decide) z8 dX11_turnedTwice_23 ?_
  refine lv_i2l hx hb dX11_turnedTwice_24 rfl ?_
  refine lv_iconst (v := (1 : Int32)) hx hb dX11_turnedTwice_25 (by decide) ?_
  refine S_callA hw (va_runS (own := "LeastreaderModel") (As := [.ref q3, .int (μ 1 a1.toNatClampNeg), .long ((μ 2 a1.toNatClampNeg).toInt64), .long ((μ 3 a1.toNatClampNeg).toInt64), .int (1 : Int32)]) (rest := []) ⟨hx, hb, hml, hown, ht⟩ (c_X11_oneWay q3 H.size n4 f5 (μ 1 a1.toNatClampNeg) ((μ 2 a1.toNatClampNeg).toInt64) ((μ 3 a1.toNatClampNeg).toInt64) (1 : Int32) h) (va_cwS 5 ht (G_S q_1456 q_1457 q_56 q_1458) rfl rfl rfl hd_83 ⟨Nat.le_of_ble_eq_true rfl, Nat.le_of_ble_eq_true rfl⟩) ⟨SB.blind, SB.pre hK (va_Pc2 (hw.n (j := 0) rfl) va_P0)⟩ rfl rfl hl.1 rfl (lv_room (Nat.le_of_ble_eq_true rfl)) dX11_turnedTwice_26 ⟨show 1 + 3 ≤ 8 by omega, show 21 + 288 ≤ 693 by omega⟩) (fun H locs h hw => ?_) (fun q9 n10 f11 H locs hq9 h hw => ?_)
  · skip
    have h := h.1 rfl
    refine lv_astore_nN (lv' := [(2, .null), (0, .ref (ad 0)), (1, .int a1)]) hx hb dX11_turnedTwice_29 rfl hl (by decide) rfl (fun ls hl => ?_)
    refine lv_aload_nN hx hb dX11_turnedTwice_30 rfl (lv_at hl 0 rfl) ?_
    refine lv_ifnonnullN hx hb dX11_turnedTwice_31 ?_
    refine lv_null hx hb dX11_turnedTwice_34 ?_
    exact hretN H locs ls 35 _ _ _ _ hw ⟨rfl, h⟩ (show 4 ≤ 8 by omega) (show 309 ≤ 693 by omega) dX11_turnedTwice_35
  have h := h.2 _ _ rfl
  have hw : MW D (MR ad cI μ) [eL cL q3 n4 f5, eI cI q9 n10 f11] (MA ad s.heap.size) s H locs := hw
  refine lv_astore_n (lv' := [(2, .ref q9), (0, .ref (ad 0)), (1, .int a1)]) hx hb dX11_turnedTwice_29 rfl hl (by decide) rfl (fun ls hl => ?_)
  refine lv_aload_n hx hb dX11_turnedTwice_30 rfl (lv_at hl 0 rfl) ?_
  refine lv_ifnonnull (tgt := 36) hx hb dX11_turnedTwice_31 (by decide) ?_
  refine lv_aload_n hx hb dX11_turnedTwice_36 rfl (lv_at hl 0 rfl) ?_
  refine n_alenI hx hb hK (hw.n (j := 1) rfl) dX11_turnedTwice_37 ?_
  refine lv_iconst (v := (4 : Int32)) hx hb dX11_turnedTwice_38 (by decide) ?_
  refine lv_idiv hx hb dX11_turnedTwice_39 (by decide) ?_
  refine lv_istore_n (lv' := [(3, .int ((nI n10) / (4 : Int32))), (2, .ref q9), (0, .ref (ad 0)), (1, .int a1)]) hx hb dX11_turnedTwice_40 rfl hl (by decide) rfl (fun ls hl => ?_)
  refine lv_iconst (v := (3 : Int32)) hx hb dX11_turnedTwice_41 (by decide) ?_
  refine lv_iload_n hx hb dX11_turnedTwice_42 rfl (lv_at hl 0 rfl) ?_
  refine lv_imul hx hb dX11_turnedTwice_43 ?_
  obtain ⟨z12, h⟩ := h
  refine n_newL (B := 96) hx hb ht q_1420 hK hw z12 (by decide) (show 4 + 1 ≤ 8 by omega) (show 309 + 96 ≤ 693 by omega) dX11_turnedTwice_44 (fun q13 H hq13 hw => ?_)
  have hw : MW D (MR ad cI μ) [eL cL q3 n4 f5, eI cI q9 n10 f11, eL cL q13 (((3 : Int32) * ((nI n10) / (4 : Int32))).toNatClampNeg) (fun _ => 0)] (MA ad s.heap.size) s H locs := hw
  refine lv_astore (lv' := [(4, .ref q13), (3, .int ((nI n10) / (4 : Int32))), (2, .ref q9), (0, .ref (ad 0)), (1, .int a1)]) hx hb dX11_turnedTwice_46 hl (by decide) rfl (fun ls hl => ?_)
  refine lv_lconst (v := (0 : Int64)) hx hb dX11_turnedTwice_48 (by decide) ?_
  refine lv_lstore (lv' := [(5, .long (0 : Int64)), (4, .ref q13), (3, .int ((nI n10) / (4 : Int32))), (2, .ref q9), (0, .ref (ad 0)), (1, .int a1)]) hx hb dX11_turnedTwice_49 hl (by decide) rfl (fun ls hl => ?_)
  refine lv_iconst (v := (0 : Int32)) hx hb dX11_turnedTwice_51 (by decide) ?_
  refine lv_istore (lv' := [(7, .int (0 : Int32)), (5, .long (0 : Int64)), (4, .ref q13), (3, .int ((nI n10) / (4 : Int32))), (2, .ref q9), (0, .ref (ad 0)), (1, .int a1)]) hx hb dX11_turnedTwice_52 hl (by decide) rfl (fun ls hl => ?_)
  obtain ⟨n34, h⟩ := h
  have L13 : ∀ (n18 : Nat) (v17 : Int32) (K123 : Int64 → (Nat → Int64) → Prop), (∀ (v16 : Int64) (f19 : Nat → Int64), ∀ (H : Heap) (locs : List Loc) (ls : Array Slot), MW D (MR ad cI μ) [eL cL q13 n18 f19] (MA ad s.heap.size) s H locs → lv_has ls 9 [(5, .long v16), (4, .ref q13), (3, .int v17)] → K123 v16 f19 → W p l e (RA 2 8 693) s m #[.ref (ad 0), .int a1] below meth c H locs 5 405 Z (F0 m 123 ls [])) → ∀ (n : Nat), ∀ (v15 : Int32) (v16 : Int64) (f19 : Nat → Int64), ∀ (H : Heap) (locs : List Loc) (ls : Array Slot), MW D (MR ad cI μ) [eI cI q9 n10 f11, eL cL q13 n18 f19] (MA ad s.heap.size) s H locs → lv_has ls 9 [(7, .int v15), (5, .long v16), (4, .ref q13), (3, .int v17), (2, .ref q9)] → wpl_X11_turnedTwice_54 μ n18 f11 n10 v17 K123 n v15 v16 f19 → W p l e (RA 2 8 693) s m #[.ref (ad 0), .int a1] below meth c H locs 5 405 Z (F0 m 54 ls []) := by
    intro n18 v17 K123 hK123
    intro n
    induction n with
    | zero => intro v15 v16 f19 H locs ls hw hl h; exact False.elim h
    | succ n ih13 =>
      intro v15 v16 f19 H locs ls hw hl h
      change (v17 ≤ v15 → (K123 v16 f19)) ∧ (¬ v17 ≤ v15 → (∃ n20x, wpl_X11_turnedTwice_63 μ n18 f11 n10 v15 v16 v17 (fun (f31 : Nat → Int64) => vp_in (((4 : Int32) * v15) + (3 : Int32)) n10 ∧ ((¬ (f11 (((4 : Int32) * v15) + (3 : Int32)).toNatClampNeg) = (1 : Int32) → (wpl_X11_turnedTwice_54 μ n18 f11 n10 v17 K123 n (v15 + (1 : Int32)) v16 f31)) ∧ ((f11 (((4 : Int32) * v15) + (3 : Int32)).toNatClampNeg) = (1 : Int32) → (wpl_X11_turnedTwice_54 μ n18 f11 n10 v17 K123 n (v15 + (1 : Int32)) (v16 ||| ((1 : Int64) <<< (v15.toInt64 &&& 63))) f31)))) n20x (0 : Int32) f19)) at h
      refine lv_iload hx hb dX11_turnedTwice_54 (lv_at hl 0 rfl) ?_
      refine lv_iload_n hx hb dX11_turnedTwice_56 rfl (lv_at hl 3 rfl) ?_
      refine lv_icmp_ge (tgt := 123) hx hb dX11_turnedTwice_57 (by decide) (fun c20 => ?_) (fun c20 => ?_)
      · have h := h.1 c20
        exact hK123 v16 f19 H locs ls (hw.sub [1] (by decide) rfl) (lv_sub hl [1, 2, 3] rfl) h
      have h := h.2 c20
      refine lv_iconst (v := (0 : Int32)) hx hb dX11_turnedTwice_60 (by decide) ?_
      refine lv_istore (lv' := [(8, .int (0 : Int32)), (7, .int v15), (5, .long v16), (4, .ref q13), (3, .int v17), (2, .ref q9)]) hx hb dX11_turnedTwice_61 hl (by decide) rfl (fun ls hl => ?_)
      obtain ⟨n30, h⟩ := h
      have L20 : ∀ (v23 : Int32) (v24 : Int64) (v25 : Int32) (K96 : (Nat → Int64) → Prop), (∀ (f26 : Nat → Int64), ∀ (H : Heap) (locs : List Loc) (ls : Array Slot), MW D (MR ad cI μ) [eI cI q9 n10 f11, eL cL q13 n18 f26] (MA ad s.heap.size) s H locs → lv_has ls 9 [(7, .int v23), (5, .long v24), (4, .ref q13), (3, .int v25), (2, .ref q9)] → K96 f26 → W p l e (RA 2 8 693) s m #[.ref (ad 0), .int a1] below meth c H locs 5 405 Z (F0 m 96 ls [])) → ∀ (n : Nat), ∀ (v22 : Int32) (f26 : Nat → Int64), ∀ (H : Heap) (locs : List Loc) (ls : Array Slot), MW D (MR ad cI μ) [eI cI q9 n10 f11, eL cL q13 n18 f26] (MA ad s.heap.size) s H locs → lv_has ls 9 [(8, .int v22), (7, .int v23), (5, .long v24), (4, .ref q13), (3, .int v25), (2, .ref q9)] → wpl_X11_turnedTwice_63 μ n18 f11 n10 v23 v24 v25 K96 n v22 f26 → W p l e (RA 2 8 693) s m #[.ref (ad 0), .int a1] below meth c H locs 5 405 Z (F0 m 63 ls []) := by
        intro v23 v24 v25 K96 hK96
        intro n
        induction n with
        | zero => intro v22 f26 H locs ls hw hl h; exact False.elim h
        | succ n ih20 =>
          intro v22 f26 H locs ls hw hl h
          change ((3 : Int32) ≤ v22 → (K96 f26)) ∧ (¬ (3 : Int32) ≤ v22 → (vp_in (((4 : Int32) * v23) + v22) n10 ∧ (vp_in (((3 : Int32) * v23) + v22) n18 ∧ (wpl_X11_turnedTwice_63 μ n18 f11 n10 v23 v24 v25 K96 n (v22 + (1 : Int32)) (vp_updL f26 (((3 : Int32) * v23) + v22).toNatClampNeg ((1 : Int64) <<< ((f11 (((4 : Int32) * v23) + v22).toNatClampNeg).toInt64 &&& 63))))))) at h
          refine lv_iload hx hb dX11_turnedTwice_63 (lv_at hl 0 rfl) ?_
          refine lv_iconst (v := (3 : Int32)) hx hb dX11_turnedTwice_65 (by decide) ?_
          refine lv_icmp_ge (tgt := 96) hx hb dX11_turnedTwice_66 (by decide) (fun c27 => ?_) (fun c27 => ?_)
          · have h := h.1 c27
            exact hK96 f26 H locs ls hw (lv_sub hl [1, 2, 3, 4, 5] rfl) h
          have h := h.2 c27
          refine lv_aload hx hb dX11_turnedTwice_69 (lv_at hl 3 rfl) ?_
          refine lv_iconst (v := (3 : Int32)) hx hb dX11_turnedTwice_71 (by decide) ?_
          refine lv_iload hx hb dX11_turnedTwice_72 (lv_at hl 1 rfl) ?_
          refine lv_imul hx hb dX11_turnedTwice_74 ?_
          refine lv_iload hx hb dX11_turnedTwice_75 (lv_at hl 0 rfl) ?_
          refine lv_iadd hx hb dX11_turnedTwice_77 ?_
          refine lv_lconst (v := (1 : Int64)) hx hb dX11_turnedTwice_78 (by decide) ?_
          refine lv_aload_n hx hb dX11_turnedTwice_79 rfl (lv_at hl 5 rfl) ?_
          refine lv_iconst (v := (4 : Int32)) hx hb dX11_turnedTwice_80 (by decide) ?_
          refine lv_iload hx hb dX11_turnedTwice_81 (lv_at hl 1 rfl) ?_
          refine lv_imul hx hb dX11_turnedTwice_83 ?_
          refine lv_iload hx hb dX11_turnedTwice_84 (lv_at hl 0 rfl) ?_
          refine lv_iadd hx hb dX11_turnedTwice_86 ?_
          obtain ⟨z28, h⟩ := h
          refine n_iald hx hb hK (hw.n (j := 0) rfl) z28 dX11_turnedTwice_87 ?_
          refine lv_lshl hx hb dX11_turnedTwice_88 rfl ?_
          obtain ⟨z29, h⟩ := h
          refine n_last (j := 1) hx hb hK hw rfl z29 dX11_turnedTwice_89 (fun H locs hw => ?_)
          have hw : MW D (MR ad cI μ) [eI cI q9 n10 f11, eL cL q13 n18 (vp_updL f26 (((3 : Int32) * v23) + v22).toNatClampNeg ((1 : Int64) <<< ((f11 (((4 : Int32) * v23) + v22).toNatClampNeg).toInt64 &&& 63)))] (MA ad s.heap.size) s H locs := hw
          refine lv_iinc (v := (v22 + (1 : Int32))) (lv' := [(8, .int (v22 + (1 : Int32))), (7, .int v23), (5, .long v24), (4, .ref q13), (3, .int v25), (2, .ref q9)]) hx hb dX11_turnedTwice_90 hl (k := 0) rfl rfl (by decide) rfl (fun ls hl => ?_)
          refine lv_goto (tgt := 63) hx hb dX11_turnedTwice_93 (by decide) ?_
          exact ih20 (v22 + (1 : Int32)) (vp_updL f26 (((3 : Int32) * v23) + v22).toNatClampNeg ((1 : Int64) <<< ((f11 (((4 : Int32) * v23) + v22).toNatClampNeg).toInt64 &&& 63))) H locs ls hw (lv_sub hl [0, 1, 2, 3, 4, 5] rfl) h
      refine L20 v15 v16 v17 _ ?_ n30 (0 : Int32) f19 H locs ls hw (lv_sub hl [0, 1, 2, 3, 4, 5] rfl) h
      intro f31 H locs ls hw hl h
      refine lv_aload_n hx hb dX11_turnedTwice_96 rfl (lv_at hl 4 rfl) ?_
      refine lv_iconst (v := (4 : Int32)) hx hb dX11_turnedTwice_97 (by decide) ?_
      refine lv_iload hx hb dX11_turnedTwice_98 (lv_at hl 0 rfl) ?_
      refine lv_imul hx hb dX11_turnedTwice_100 ?_
      refine lv_iconst (v := (3 : Int32)) hx hb dX11_turnedTwice_101 (by decide) ?_
      refine lv_iadd hx hb dX11_turnedTwice_102 ?_
      obtain ⟨z32, h⟩ := h
      refine n_iald hx hb hK (hw.n (j := 0) rfl) z32 dX11_turnedTwice_103 ?_
      refine lv_iconst (v := (1 : Int32)) hx hb dX11_turnedTwice_104 (by decide) ?_
      refine lv_icmp_ne (tgt := 117) hx hb dX11_turnedTwice_105 (by decide) (fun c33 => ?_) (fun c33 => ?_)
      · have h := h.1 c33
        refine lv_iinc (v := (v15 + (1 : Int32))) (lv' := [(7, .int (v15 + (1 : Int32))), (5, .long v16), (4, .ref q13), (3, .int v17), (2, .ref q9)]) hx hb dX11_turnedTwice_117 hl (k := 0) rfl rfl (by decide) rfl (fun ls hl => ?_)
        refine lv_goto (tgt := 54) hx hb dX11_turnedTwice_120 (by decide) ?_
        exact ih13 (v15 + (1 : Int32)) v16 f31 H locs ls hw (lv_sub hl [0, 1, 2, 3, 4] rfl) h
      have h := h.2 c33
      refine lv_lload hx hb dX11_turnedTwice_108 (lv_at hl 1 rfl) ?_
      refine lv_lconst (v := (1 : Int64)) hx hb dX11_turnedTwice_110 (by decide) ?_
      refine lv_iload hx hb dX11_turnedTwice_111 (lv_at hl 0 rfl) ?_
      refine lv_lshl hx hb dX11_turnedTwice_113 rfl ?_
      refine lv_lor hx hb dX11_turnedTwice_114 ?_
      refine lv_lstore (lv' := [(5, .long (v16 ||| ((1 : Int64) <<< (v15.toInt64 &&& 63)))), (7, .int v15), (4, .ref q13), (3, .int v17), (2, .ref q9)]) hx hb dX11_turnedTwice_115 hl (by decide) rfl (fun ls hl => ?_)
      refine lv_iinc (v := (v15 + (1 : Int32))) (lv' := [(7, .int (v15 + (1 : Int32))), (5, .long (v16 ||| ((1 : Int64) <<< (v15.toInt64 &&& 63)))), (4, .ref q13), (3, .int v17), (2, .ref q9)]) hx hb dX11_turnedTwice_117 hl (k := 1) rfl rfl (by decide) rfl (fun ls hl => ?_)
      refine lv_goto (tgt := 54) hx hb dX11_turnedTwice_120 (by decide) ?_
      exact ih13 (v15 + (1 : Int32)) (v16 ||| ((1 : Int64) <<< (v15.toInt64 &&& 63))) f31 H locs ls hw (lv_sub hl [0, 1, 2, 3, 4] rfl) h
  refine L13 (((3 : Int32) * ((nI n10) / (4 : Int32))).toNatClampNeg) ((nI n10) / (4 : Int32)) _ ?_ n34 (0 : Int32) (0 : Int64) (fun _ => 0) H locs ls (hw.sub [1, 2] (by decide) rfl) (lv_sub hl [0, 1, 2, 3, 4] rfl) h
  intro u35 f36 H locs ls hw hl h
  refine lv_aload hx hb dX11_turnedTwice_123 (lv_at hl 1 rfl) ?_
  refine lv_iload_n hx hb dX11_turnedTwice_125 rfl (lv_at hl 2 rfl) ?_
  refine lv_lconst (v := (1 : Int64)) hx hb dX11_turnedTwice_126 (by decide) ?_
  refine lv_lload hx hb dX11_turnedTwice_127 (lv_at hl 0 rfl) ?_
  refine lv_iconst (v := (1 : Int32)) hx hb dX11_turnedTwice_129 (by decide) ?_
  refine S_callA hw (va_runS (own := "LeastreaderModel") (As := [.ref q13, .int ((nI n10) / (4 : Int32)), .long (1 : Int64), .long u35, .int (1 : Int32)]) (rest := []) ⟨hx, hb, hml, hown, ht⟩ (c_X11_oneWay q13 H.size (((3 : Int32) * ((nI n10) / (4 : Int32))).toNatClampNeg) f36 ((nI n10) / (4 : Int32)) (1 : Int64) u35 (1 : Int32) h) (va_cwS 5 ht (G_S q_1456 q_1457 q_56 q_1458) rfl rfl rfl hd_83 ⟨Nat.le_of_ble_eq_true rfl, Nat.le_of_ble_eq_true rfl⟩) ⟨SB.blind, SB.pre hK (va_Pc2 (hw.n (j := 0) rfl) va_P0)⟩ rfl rfl hl.1 rfl (lv_room (Nat.le_of_ble_eq_true rfl)) dX11_turnedTwice_130 ⟨show 5 + 3 ≤ 8 by omega, show 405 + 288 ≤ 693 by omega⟩) (fun H locs h hw => ?_) (fun q37 n38 f39 H locs hq37 h hw => ?_)
  · skip
    have h := h.1 rfl
    exact hretN H locs ls 133 _ _ _ _ hw ⟨rfl, h⟩ (show 8 ≤ 8 by omega) (show 693 ≤ 693 by omega) dX11_turnedTwice_133
  have h := h.2 _ _ rfl
  have hw : MW D (MR ad cI μ) [eL cL q13 (((3 : Int32) * ((nI n10) / (4 : Int32))).toNatClampNeg) f36, eI cI q37 n38 f39] (MA ad s.heap.size) s H locs := hw
  exact hret H locs ls 133 _ _ _ 1 _ _ _ _ hw rfl hq37 ⟨rfl, h⟩ (show 8 ≤ 8 by omega) (show 693 ≤ 693 by omega) dX11_turnedTwice_133
end
/-! part 65.r4 -/
section
def wp_X11_found (μ : TMem) (a1 : Int32) (a2 : Int32) (Q : Option AI → Prop) : Prop :=
  (¬ a2 = (3 : Int32) → ((¬ a2 = (2 : Int32) → (wp_X11_oneWay_ μ a1 (fun (r16 : Option AI) => (r16 = none → (wp_X11_least_n (fun (r11 : Option AI) => (r11 = none → (Q none)) ∧ (∀ (n9 : Nat) (f10 : Nat → Int32), r11 = some (n9, f10) → (Q (some (n9, f10))))))) ∧ (∀ (n6 : Nat) (f7 : Nat → Int32), r16 = some (n6, f7) → (wp_X11_least n6 f7 (fun (r15 : Option AI) => (r15 = none → (Q none)) ∧ (∀ (n13 : Nat) (f14 : Nat → Int32), r15 = some (n13, f14) → (Q (some (n13, f14)))))))))) ∧ (a2 = (2 : Int32) → (wp_X11_turnedTwice μ a1 (fun (r22 : Option AI) => (r22 = none → (Q none)) ∧ (∀ (n20 : Nat) (f21 : Nat → Int32), r22 = some (n20, f21) → (Q (some (n20, f21))))))))) ∧ (a2 = (3 : Int32) → (wp_X11_oneWay_ μ a1 (fun (r28 : Option AI) => (r28 = none → (Q none)) ∧ (∀ (n26 : Nat) (f27 : Nat → Int32), r28 = some (n26, f27) → (Q (some (n26, f27)))))))
set_option maxHeartbeats 4000000 in
set_option maxRecDepth 100000 in
theorem c_X11_found {l : Launch} {D : va_G} {ad : Nat → Nat} {cI cL : ClassId}  (μ : TMem) (sz : Nat) (a1 : Int32) (a2 : Int32)  {Q : Option AI → Prop} (h : wp_X11_found μ a1 a2 Q) : MMA l yX11_found (.code yX11_found cX11_found 3 (Option.some (Jvm.ClassFile.FieldType.array Jvm.ClassFile.FieldType.int))) 3 41 1685 [.ref (ad 0), .int a1, .int a2] D ad cI cL sz μ [] (fun o μ1 => μ1 = μ ∧ Q o) := by
  refine M_metA (by decide +kernel) (Nat.le_of_ble_eq_true rfl) ?_
  intro p e s m below meth c Z ls hx hb hml hown ht hK hP0 hI hne hw hret hretN hl
  have hl : lv_has ls 3 [(0, .ref (ad 0)), (1, .int a1), (2, .int a2)] := hl
  suffices hh : ∀ (H : Heap) (locs : List Loc), MW D (MR ad cI μ) [] (MA ad s.heap.size) s H locs → W p l e (RA 3 41 1685) s m #[.ref (ad 0), .int a1, .int a2] below meth c H locs 0 0 Z (F0 m 0 ls []) from hh _ _ hw
  intro H locs hw
  change (¬ a2 = (3 : Int32) → ((¬ a2 = (2 : Int32) → (wp_X11_oneWay_ μ a1 (fun (r16 : Option AI) => (r16 = none → (wp_X11_least_n (fun (r11 : Option AI) => (r11 = none → (Q none)) ∧ (∀ (n9 : Nat) (f10 : Nat → Int32), r11 = some (n9, f10) → (Q (some (n9, f10))))))) ∧ (∀ (n6 : Nat) (f7 : Nat → Int32), r16 = some (n6, f7) → (wp_X11_least n6 f7 (fun (r15 : Option AI) => (r15 = none → (Q none)) ∧ (∀ (n13 : Nat) (f14 : Nat → Int32), r15 = some (n13, f14) → (Q (some (n13, f14)))))))))) ∧ (a2 = (2 : Int32) → (wp_X11_turnedTwice μ a1 (fun (r22 : Option AI) => (r22 = none → (Q none)) ∧ (∀ (n20 : Nat) (f21 : Nat → Int32), r22 = some (n20, f21) → (Q (some (n20, f21))))))))) ∧ (a2 = (3 : Int32) → (wp_X11_oneWay_ μ a1 (fun (r28 : Option AI) => (r28 = none → (Q none)) ∧ (∀ (n26 : Nat) (f27 : Nat → Int32), r28 = some (n26, f27) → (Q (some (n26, f27))))))) at h
  refine lv_iload_n hx hb dX11_found_0 rfl (lv_at hl 2 rfl) ?_
  refine lv_iconst (v := (3 : Int32)) hx hb dX11_found_1 (by decide) ?_
  refine lv_icmp_ne (tgt := 13) hx hb dX11_found_2 (by decide) (fun c1 => ?_) (fun c1 => ?_)
  · have h := h.1 c1
    refine lv_iload_n hx hb dX11_found_13 rfl (lv_at hl 2 rfl) ?_
    refine lv_iconst (v := (2 : Int32)) hx hb dX11_found_14 (by decide) ?_
    refine lv_icmp_ne (tgt := 26) hx hb dX11_found_15 (by decide) (fun c2 => ?_) (fun c2 => ?_)
    · have h := h.1 c2
      refine lv_aload_n hx hb dX11_found_26 rfl (lv_at hl 0 rfl) ?_
      refine lv_iload_n hx hb dX11_found_27 rfl (lv_at hl 1 rfl) ?_
      refine M_callA hw (MA.up hw.2.2.1.1) (va_runV (own := "LeastreaderModel") (As := [.int a1]) (rest := []) ⟨hx, hb, hml, hown, ht⟩ (c_X11_oneWay_ μ H.size a1 h) (cwV 1 ht (G_V q_1452 q_1454 q_37 q_56 q_1455) rfl rfl rfl ⟨rfl, hd_86⟩ ⟨Nat.le_of_ble_eq_true rfl, Nat.le_of_ble_eq_true rfl⟩) ⟨MB.blind, M_recv hK hw, MB.pre hK hI hw va_P0 ne0⟩ rfl rfl hl.1 rfl (lv_room (Nat.le_of_ble_eq_true rfl)) dX11_found_28 ⟨show 0 + 4 ≤ 41 by omega, show 0 + 309 ≤ 1685 by omega⟩) (fun μ3 H locs h hw => ?_) (fun q5 n6 f7 μ3 H locs hq5 h hw => ?_)
      · skip
        obtain ⟨e4, h⟩ := h
        rw [e4] at hw
        have h := h.1 rfl
        refine S_callA hw (va_runS (own := "LeastreaderModel") (As := [.null]) (rest := []) ⟨hx, hb, hml, hown, ht⟩ (c_X11_least_n H.size h) (va_cwS 1 ht (G_S q_1466 q_1467 q_56 q_1468) rfl rfl rfl hd_87 ⟨Nat.le_of_ble_eq_true rfl, Nat.le_of_ble_eq_true rfl⟩) ⟨SB.blind, SB.pre hK va_P0⟩ rfl rfl hl.1 rfl (lv_room (Nat.le_of_ble_eq_true rfl)) dX11_found_31 ⟨show 4 + 0 ≤ 41 by omega, show 309 + 0 ≤ 1685 by omega⟩) (fun H locs h hw => ?_) (fun q8 n9 f10 H locs hq8 h hw => ?_)
        · skip
          have h := h.1 rfl
          exact hretN H locs ls 34 _ _ _ _ hw ⟨rfl, h⟩ (show 4 ≤ 41 by omega) (show 309 ≤ 1685 by omega) dX11_found_34
        have h := h.2 _ _ rfl
        have hw : MW D (MR ad cI μ) [eI cI q8 n9 f10] (MA ad s.heap.size) s H locs := hw
        exact hret H locs ls 34 _ _ _ 0 _ _ _ _ hw rfl hq8 ⟨rfl, h⟩ (show 4 ≤ 41 by omega) (show 309 ≤ 1685 by omega) dX11_found_34
      obtain ⟨e4, h⟩ := h
      rw [e4] at hw
      have h := h.2 _ _ rfl
      have hw : MW D (MR ad cI μ) [eI cI q5 n6 f7] (MA ad s.heap.size) s H locs := hw
      refine S_callA hw (va_runS (own := "LeastreaderModel") (As := [.ref q5]) (rest := []) ⟨hx, hb, hml, hown, ht⟩ (c_X11_least q5 H.size n6 f7 h) (va_cwS 1 ht (G_S q_1466 q_1467 q_56 q_1468) rfl rfl rfl hd_87 ⟨Nat.le_of_ble_eq_true rfl, Nat.le_of_ble_eq_true rfl⟩) ⟨SB.blind, SB.pre hK (va_Pc2 (hw.n (j := 0) rfl) va_P0)⟩ rfl rfl hl.1 rfl (lv_room (Nat.le_of_ble_eq_true rfl)) dX11_found_31 ⟨show 4 + 37 ≤ 41 by omega, show 309 + 1376 ≤ 1685 by omega⟩) (fun H locs h hw => ?_) (fun q12 n13 f14 H locs hq12 h hw => ?_)
      · skip
        have h := h.1 rfl
        exact hretN H locs ls 34 _ _ _ _ hw ⟨rfl, h⟩ (show 41 ≤ 41 by omega) (show 1685 ≤ 1685 by omega) dX11_found_34
      have h := h.2 _ _ rfl
      have hw : MW D (MR ad cI μ) [eI cI q5 n6 f7, eI cI q12 n13 f14] (MA ad s.heap.size) s H locs := hw
      exact hret H locs ls 34 _ _ _ 1 _ _ _ _ hw rfl hq12 ⟨rfl, h⟩ (show 41 ≤ 41 by omega) (show 1685 ≤ 1685 by omega) dX11_found_34
    have h := h.2 c2
    refine lv_aload_n hx hb dX11_found_18 rfl (lv_at hl 0 rfl) ?_
    refine lv_iload_n hx hb dX11_found_19 rfl (lv_at hl 1 rfl) ?_
    refine M_callA hw (MA.up hw.2.2.1.1) (va_runV (own := "LeastreaderModel") (As := [.int a1]) (rest := []) ⟨hx, hb, hml, hown, ht⟩ (c_X11_turnedTwice μ H.size a1 h) (cwV 1 ht (G_V q_1462 q_1464 q_38 q_56 q_1465) rfl rfl rfl ⟨rfl, hd_88⟩ ⟨Nat.le_of_ble_eq_true rfl, Nat.le_of_ble_eq_true rfl⟩) ⟨MB.blind, M_recv hK hw, MB.pre hK hI hw va_P0 ne0⟩ rfl rfl hl.1 rfl (lv_room (Nat.le_of_ble_eq_true rfl)) dX11_found_20 ⟨show 0 + 8 ≤ 41 by omega, show 0 + 693 ≤ 1685 by omega⟩) (fun μ17 H locs h hw => ?_) (fun q19 n20 f21 μ17 H locs hq19 h hw => ?_)
    · skip
      obtain ⟨e18, h⟩ := h
      rw [e18] at hw
      have h := h.1 rfl
      refine lv_goto (tgt := 34) hx hb dX11_found_23 (by decide) ?_
      exact hretN H locs ls 34 _ _ _ _ hw ⟨rfl, h⟩ (show 8 ≤ 41 by omega) (show 693 ≤ 1685 by omega) dX11_found_34
    obtain ⟨e18, h⟩ := h
    rw [e18] at hw
    have h := h.2 _ _ rfl
    have hw : MW D (MR ad cI μ) [eI cI q19 n20 f21] (MA ad s.heap.size) s H locs := hw
    refine lv_goto (tgt := 34) hx hb dX11_found_23 (by decide) ?_
    exact hret H locs ls 34 _ _ _ 0 _ _ _ _ hw rfl hq19 ⟨rfl, h⟩ (show 8 ≤ 41 by omega) (show 693 ≤ 1685 by omega) dX11_found_34
  have h := h.2 c1
  refine lv_aload_n hx hb dX11_found_5 rfl (lv_at hl 0 rfl) ?_
  refine lv_iload_n hx hb dX11_found_6 rfl (lv_at hl 1 rfl) ?_
  refine M_callA hw (MA.up hw.2.2.1.1) (va_runV (own := "LeastreaderModel") (As := [.int a1]) (rest := []) ⟨hx, hb, hml, hown, ht⟩ (c_X11_oneWay_ μ H.size a1 h) (cwV 1 ht (G_V q_1452 q_1454 q_37 q_56 q_1455) rfl rfl rfl ⟨rfl, hd_86⟩ ⟨Nat.le_of_ble_eq_true rfl, Nat.le_of_ble_eq_true rfl⟩) ⟨MB.blind, M_recv hK hw, MB.pre hK hI hw va_P0 ne0⟩ rfl rfl hl.1 rfl (lv_room (Nat.le_of_ble_eq_true rfl)) dX11_found_7 ⟨show 0 + 4 ≤ 41 by omega, show 0 + 309 ≤ 1685 by omega⟩) (fun μ23 H locs h hw => ?_) (fun q25 n26 f27 μ23 H locs hq25 h hw => ?_)
  · skip
    obtain ⟨e24, h⟩ := h
    rw [e24] at hw
    have h := h.1 rfl
    refine lv_goto (tgt := 34) hx hb dX11_found_10 (by decide) ?_
    exact hretN H locs ls 34 _ _ _ _ hw ⟨rfl, h⟩ (show 4 ≤ 41 by omega) (show 309 ≤ 1685 by omega) dX11_found_34
  obtain ⟨e24, h⟩ := h
  rw [e24] at hw
  have h := h.2 _ _ rfl
  have hw : MW D (MR ad cI μ) [eI cI q25 n26 f27] (MA ad s.heap.size) s H locs := hw
  refine lv_goto (tgt := 34) hx hb dX11_found_10 (by decide) ?_
  exact hret H locs ls 34 _ _ _ 0 _ _ _ _ hw rfl hq25 ⟨rfl, h⟩ (show 4 ≤ 41 by omega) (show 309 ≤ 1685 by omega) dX11_found_34
def wpl_X11_ways_25 (fa1 : Nat → Int32) (na1 : Nat) (n7 : Nat) (v12 : Int32) (v13 : Int32) (v14 : Int32) (K116 : (Nat → Int32) → Prop) : Nat → Int32 → (Nat → Int32) → Prop
  | 0, _, _ => False
  | n + 1, v11, f15 =>
    (v13 ≤ v11 → (K116 f15)) ∧ (¬ v13 ≤ v11 → (vp_in (((4 : Int32) * v11) + (3 : Int32)) na1 ∧ (∀ J18 : Int32 → Prop, (∀ (j19 : Int32), (vp_in ((v12 * v13) + v11) n7 ∧ (wpl_X11_ways_25 fa1 na1 n7 v12 v13 v14 K116 n (v11 + (1 : Int32)) (upd f15 ((v12 * v13) + v11).toNatClampNeg j19))) → J18 j19) → ((v12 ≤ 0 → (J18 (fa1 (((4 : Int32) * v11) + (3 : Int32)).toNatClampNeg))) ∧ (¬ v12 ≤ 0 → (vp_in ((4 : Int32) * v11) na1 ∧ (vp_in (((v12 - (1 : Int32)) * v13) + (fa1 ((4 : Int32) * v11).toNatClampNeg)) n7 ∧ (vp_in (((4 : Int32) * v11) + (1 : Int32)) na1 ∧ (vp_in (((v12 - (1 : Int32)) * v13) + (fa1 (((4 : Int32) * v11) + (1 : Int32)).toNatClampNeg)) n7 ∧ (vp_in (((4 : Int32) * v11) + (2 : Int32)) na1 ∧ (vp_in (((v12 - (1 : Int32)) * v13) + (fa1 (((4 : Int32) * v11) + (2 : Int32)).toNatClampNeg)) n7 ∧ (J18 (((f15 (((v12 - (1 : Int32)) * v13) + (fa1 ((4 : Int32) * v11).toNatClampNeg)).toNatClampNeg) + (f15 (((v12 - (1 : Int32)) * v13) + (fa1 (((4 : Int32) * v11) + (1 : Int32)).toNatClampNeg)).toNatClampNeg)) + (f15 (((v12 - (1 : Int32)) * v13) + (fa1 (((4 : Int32) * v11) + (2 : Int32)).toNatClampNeg)).toNatClampNeg))))))))))))))
def wpl_X11_ways_16 (fa1 : Nat → Int32) (na1 : Nat) (n7 : Nat) (v5 : Int32) (v6 : Int32) (Q : Nat → (Nat → Int32) → Prop) : Nat → Int32 → (Nat → Int32) → Prop
  | 0, _, _ => False
  | n + 1, v4, f8 =>
    (v6 < v4 → (Q n7 f8)) ∧ (¬ v6 < v4 → (∃ n9x, wpl_X11_ways_25 fa1 na1 n7 v4 v5 v6 (fun (f29 : Nat → Int32) => wpl_X11_ways_16 fa1 na1 n7 v5 v6 Q n (v4 + (1 : Int32)) f29) n9x (0 : Int32) f8))
def wp_X11_ways (na1 : Nat) (fa1 : Nat → Int32) (a2 : Int32) (Q : Nat → (Nat → Int32) → Prop) : Prop :=
  (¬ (((nI na1) / (4 : Int32)) * (a2 + (1 : Int32))) < 0 ∧ (((nI na1) / (4 : Int32)) * (a2 + (1 : Int32))).toNatClampNeg ≤ 416) ∧ (∃ n2x, wpl_X11_ways_16 fa1 na1 ((((nI na1) / (4 : Int32)) * (a2 + (1 : Int32))).toNatClampNeg) ((nI na1) / (4 : Int32)) a2 Q n2x (0 : Int32) (fun _ => 0))
set_option maxHeartbeats 4000000 in
set_option maxRecDepth 100000 in
theorem c_X11_ways {l : Launch} {D : va_G} {cI cL : ClassId} (qa1 : Nat)  (sz : Nat) (na1 : Nat) (fa1 : Nat → Int32) (a2 : Int32)  {Q : Nat → (Nat → Int32) → Prop} (h : wp_X11_ways na1 fa1 a2 Q) : SMA l yX11_ways (.code yX11_ways cX11_ways 7 (Option.some (Jvm.ClassFile.FieldType.array Jvm.ClassFile.FieldType.int))) 0 1 416 [.ref qa1, .int a2] D cI cL sz [eI cI qa1 na1 fa1] (fun o => ∃ n f, o = some (n, f) ∧ Q n f) := by
  refine S_metA (by decide +kernel) (Nat.le_of_ble_eq_true rfl) ?_
  intro p e s m below meth c Z ls hx hb hml hown ht hK hP0 hw hret hretN hl
  have hl : lv_has ls 7 [(0, .ref qa1), (1, .int a2)] := hl
  have hL0 := va_Ph hP0
  have hB0 : ¬ SA s.heap.size qa1 := fun z => absurd hL0.lt (Nat.not_lt.mpr z)
  suffices hh : ∀ (H : Heap) (locs : List Loc), MW D [] [] (SA s.heap.size) s H locs → W p l e (RA 0 1 416) s m #[.ref qa1, .int a2] below meth c H locs 0 0 Z (F0 m 0 ls []) from hh _ _ hw
  intro H locs hw
  change (¬ (((nI na1) / (4 : Int32)) * (a2 + (1 : Int32))) < 0 ∧ (((nI na1) / (4 : Int32)) * (a2 + (1 : Int32))).toNatClampNeg ≤ 416) ∧ (∃ n2x, wpl_X11_ways_16 fa1 na1 ((((nI na1) / (4 : Int32)) * (a2 + (1 : Int32))).toNatClampNeg) ((nI na1) / (4 : Int32)) a2 Q n2x (0 : Int32) (fun _ => 0)) at h
  refine lv_aload_n hx hb dX11_ways_0 rfl (lv_at hl 0 rfl) ?_
  refine n_alenI hx hb hK (hw.arg hL0 hB0) dX11_ways_1 ?_
  refine lv_iconst (v := (4 : Int32)) hx hb dX11_ways_2 (by decide) ?_
  refine lv_idiv hx hb dX11_ways_3 (by decide) ?_
  refine lv_istore_n (lv' := [(2, .int ((nI na1) / (4 : Int32))), (0, .ref qa1), (1, .int a2)]) hx hb dX11_ways_4 rfl hl (by decide) rfl (fun ls hl => ?_)
  refine lv_iload_n hx hb dX11_ways_5 rfl (lv_at hl 0 rfl) ?_
  refine lv_iload_n hx hb dX11_ways_6 rfl (lv_at hl 2 rfl) ?_
  refine lv_iconst (v := (1 : Int32)) hx hb dX11_ways_7 (by decide) ?_
  refine lv_iadd hx hb dX11_ways_8 ?_
  refine lv_imul hx hb dX11_ways_9 ?_
  obtain ⟨z1, h⟩ := h
  refine n_newI (B := 416) hx hb ht q_128 hK hw z1 (by decide) (show 0 + 1 ≤ 1 by omega) (show 0 + 416 ≤ 416 by omega) dX11_ways_10 (fun q2 H hq2 hw => ?_)
  have hw : MW D [] [eI cI q2 ((((nI na1) / (4 : Int32)) * (a2 + (1 : Int32))).toNatClampNeg) (fun _ => 0)] (SA s.heap.size) s H locs := hw
  refine lv_astore_n (lv' := [(3, .ref q2), (2, .int ((nI na1) / (4 : Int32))), (0, .ref qa1), (1, .int a2)]) hx hb dX11_ways_12 rfl hl (by decide) rfl (fun ls hl => ?_)
  refine lv_iconst (v := (0 : Int32)) hx hb dX11_ways_13 (by decide) ?_
  refine lv_istore (lv' := [(4, .int (0 : Int32)), (3, .ref q2), (2, .int ((nI na1) / (4 : Int32))), (0, .ref qa1), (1, .int a2)]) hx hb dX11_ways_14 hl (by decide) rfl (fun ls hl => ?_)
  obtain ⟨n30, h⟩ := h
  have L2 : ∀ (n7 : Nat) (v5 : Int32) (v6 : Int32), ∀ (n : Nat), ∀ (v4 : Int32) (f8 : Nat → Int32), ∀ (H : Heap) (locs : List Loc) (ls : Array Slot), MW D [] [eI cI q2 n7 f8] (SA s.heap.size) s H locs → lv_has ls 7 [(4, .int v4), (3, .ref q2), (2, .int v5), (0, .ref qa1), (1, .int v6)] → wpl_X11_ways_16 fa1 na1 n7 v5 v6 Q n v4 f8 → W p l e (RA 0 1 416) s m #[.ref qa1, .int a2] below meth c H locs 1 416 Z (F0 m 16 ls []) := by
    intro n7 v5 v6
    intro n
    induction n with
    | zero => intro v4 f8 H locs ls hw hl h; exact False.elim h
    | succ n ih2 =>
      intro v4 f8 H locs ls hw hl h
      change (v6 < v4 → (Q n7 f8)) ∧ (¬ v6 < v4 → (∃ n9x, wpl_X11_ways_25 fa1 na1 n7 v4 v5 v6 (fun (f29 : Nat → Int32) => wpl_X11_ways_16 fa1 na1 n7 v5 v6 Q n (v4 + (1 : Int32)) f29) n9x (0 : Int32) f8)) at h
      refine lv_iload hx hb dX11_ways_16 (lv_at hl 0 rfl) ?_
      refine lv_iload_n hx hb dX11_ways_18 rfl (lv_at hl 4 rfl) ?_
      refine lv_icmp_gt (tgt := 122) hx hb dX11_ways_19 (by decide) (fun c9 => ?_) (fun c9 => ?_)
      · have h := h.1 c9
        refine lv_aload_n hx hb dX11_ways_122 rfl (lv_at hl 1 rfl) ?_
        exact hret H locs ls 123 _ _ _ 0 _ _ _ hw rfl hq2 ⟨_, _, rfl, h⟩ (show 1 ≤ 1 by omega) (show 416 ≤ 416 by omega) dX11_ways_123
      have h := h.2 c9
      refine lv_iconst (v := (0 : Int32)) hx hb dX11_ways_22 (by decide) ?_
      refine lv_istore (lv' := [(5, .int (0 : Int32)), (4, .int v4), (3, .ref q2), (2, .int v5), (0, .ref qa1), (1, .int v6)]) hx hb dX11_ways_23 hl (by decide) rfl (fun ls hl => ?_)
      obtain ⟨n28, h⟩ := h
      have L9 : ∀ (v12 : Int32) (v13 : Int32) (v14 : Int32) (K116 : (Nat → Int32) → Prop), (∀ (f15 : Nat → Int32), ∀ (H : Heap) (locs : List Loc) (ls : Array Slot), MW D [] [eI cI q2 n7 f15] (SA s.heap.size) s H locs → lv_has ls 7 [(4, .int v12), (3, .ref q2), (2, .int v13), (0, .ref qa1), (1, .int v14)] → K116 f15 → W p l e (RA 0 1 416) s m #[.ref qa1, .int a2] below meth c H locs 1 416 Z (F0 m 116 ls [])) → ∀ (n : Nat), ∀ (v11 : Int32) (f15 : Nat → Int32), ∀ (H : Heap) (locs : List Loc) (ls : Array Slot), MW D [] [eI cI q2 n7 f15] (SA s.heap.size) s H locs → lv_has ls 7 [(5, .int v11), (4, .int v12), (3, .ref q2), (2, .int v13), (0, .ref qa1), (1, .int v14)] → wpl_X11_ways_25 fa1 na1 n7 v12 v13 v14 K116 n v11 f15 → W p l e (RA 0 1 416) s m #[.ref qa1, .int a2] below meth c H locs 1 416 Z (F0 m 25 ls []) := by
        intro v12 v13 v14 K116 hK116
        intro n
        induction n with
        | zero => intro v11 f15 H locs ls hw hl h; exact False.elim h
        | succ n ih9 =>
          intro v11 f15 H locs ls hw hl h
          change (v13 ≤ v11 → (K116 f15)) ∧ (¬ v13 ≤ v11 → (vp_in (((4 : Int32) * v11) + (3 : Int32)) na1 ∧ (∀ J18 : Int32 → Prop, (∀ (j19 : Int32), (vp_in ((v12 * v13) + v11) n7 ∧ (wpl_X11_ways_25 fa1 na1 n7 v12 v13 v14 K116 n (v11 + (1 : Int32)) (upd f15 ((v12 * v13) + v11).toNatClampNeg j19))) → J18 j19) → ((v12 ≤ 0 → (J18 (fa1 (((4 : Int32) * v11) + (3 : Int32)).toNatClampNeg))) ∧ (¬ v12 ≤ 0 → (vp_in ((4 : Int32) * v11) na1 ∧ (vp_in (((v12 - (1 : Int32)) * v13) + (fa1 ((4 : Int32) * v11).toNatClampNeg)) n7 ∧ (vp_in (((4 : Int32) * v11) + (1 : Int32)) na1 ∧ (vp_in (((v12 - (1 : Int32)) * v13) + (fa1 (((4 : Int32) * v11) + (1 : Int32)).toNatClampNeg)) n7 ∧ (vp_in (((4 : Int32) * v11) + (2 : Int32)) na1 ∧ (vp_in (((v12 - (1 : Int32)) * v13) + (fa1 (((4 : Int32) * v11) + (2 : Int32)).toNatClampNeg)) n7 ∧ (J18 (((f15 (((v12 - (1 : Int32)) * v13) + (fa1 ((4 : Int32) * v11).toNatClampNeg)).toNatClampNeg) + (f15 (((v12 - (1 : Int32)) * v13) + (fa1 (((4 : Int32) * v11) + (1 : Int32)).toNatClampNeg)).toNatClampNeg)) + (f15 (((v12 - (1 : Int32)) * v13) + (fa1 (((4 : Int32) * v11) + (2 : Int32)).toNatClampNeg)).toNatClampNeg)))))))))))))) at h
          refine lv_iload hx hb dX11_ways_25 (lv_at hl 0 rfl) ?_
          refine lv_iload_n hx hb dX11_ways_27 rfl (lv_at hl 3 rfl) ?_
          refine lv_icmp_ge (tgt := 116) hx hb dX11_ways_28 (by decide) (fun c16 => ?_) (fun c16 => ?_)
          · have h := h.1 c16
            exact hK116 f15 H locs ls hw (lv_sub hl [1, 2, 3, 4, 5] rfl) h
          have h := h.2 c16
          refine lv_aload_n hx hb dX11_ways_31 rfl (lv_at hl 4 rfl) ?_
          refine lv_iconst (v := (4 : Int32)) hx hb dX11_ways_32 (by decide) ?_
          refine lv_iload hx hb dX11_ways_33 (lv_at hl 0 rfl) ?_
          refine lv_imul hx hb dX11_ways_35 ?_
          refine lv_iconst (v := (3 : Int32)) hx hb dX11_ways_36 (by decide) ?_
          refine lv_iadd hx hb dX11_ways_37 ?_
          obtain ⟨z17, h⟩ := h
          refine n_iald hx hb hK (hw.arg hL0 hB0) z17 dX11_ways_38 ?_
          refine lv_istore (lv' := [(6, .int (fa1 (((4 : Int32) * v11) + (3 : Int32)).toNatClampNeg)), (5, .int v11), (4, .int v12), (3, .ref q2), (2, .int v13), (0, .ref qa1), (1, .int v14)]) hx hb dX11_ways_39 hl (by decide) rfl (fun ls hl => ?_)
          refine lv_iload hx hb dX11_ways_41 (lv_at hl 2 rfl) ?_
          have h := h (fun (j19 : Int32) => ∀ (H : Heap) (locs : List Loc) (ls : Array Slot), MW D [] [eI cI q2 n7 f15] (SA s.heap.size) s H locs → lv_has ls 7 [(6, .int j19), (5, .int v11), (4, .int v12), (3, .ref q2), (2, .int v13), (0, .ref qa1), (1, .int v14)] → W p l e (RA 0 1 416) s m #[.ref qa1, .int a2] below meth c H locs 1 416 Z (F0 m 99 ls [])) (fun j19 h H locs ls hw hl => by
            refine lv_aload_n hx hb dX11_ways_99 rfl (lv_at hl 3 rfl) ?_
            refine lv_iload hx hb dX11_ways_100 (lv_at hl 2 rfl) ?_
            refine lv_iload_n hx hb dX11_ways_102 rfl (lv_at hl 4 rfl) ?_
            refine lv_imul hx hb dX11_ways_103 ?_
            refine lv_iload hx hb dX11_ways_104 (lv_at hl 1 rfl) ?_
            refine lv_iadd hx hb dX11_ways_106 ?_
            refine lv_iload hx hb dX11_ways_107 (lv_at hl 0 rfl) ?_
            obtain ⟨z20, h⟩ := h
            refine n_iast (j := 0) hx hb hK hw rfl z20 dX11_ways_109 (fun H locs hw => ?_)
            have hw : MW D [] [eI cI q2 n7 (upd f15 ((v12 * v13) + v11).toNatClampNeg j19)] (SA s.heap.size) s H locs := hw
            refine lv_iinc (v := (v11 + (1 : Int32))) (lv' := [(5, .int (v11 + (1 : Int32))), (6, .int j19), (4, .int v12), (3, .ref q2), (2, .int v13), (0, .ref qa1), (1, .int v14)]) hx hb dX11_ways_110 hl (k := 1) rfl rfl (by decide) rfl (fun ls hl => ?_)
            refine lv_goto (tgt := 25) hx hb dX11_ways_113 (by decide) ?_
            exact ih9 (v11 + (1 : Int32)) (upd f15 ((v12 * v13) + v11).toNatClampNeg j19) H locs ls hw (lv_sub hl [0, 2, 3, 4, 5, 6] rfl) h)
          refine lv_if_le (tgt := 99) hx hb dX11_ways_43 (by decide) (fun c21 => ?_) (fun c21 => ?_)
          · have h := h.1 c21
            exact h H locs ls hw (lv_sub hl [0, 1, 2, 3, 4, 5, 6] rfl)
          have h := h.2 c21
          refine lv_aload_n hx hb dX11_ways_46 rfl (lv_at hl 3 rfl) ?_
          refine lv_iload hx hb dX11_ways_47 (lv_at hl 2 rfl) ?_
          refine lv_iconst (v := (1 : Int32)) hx hb dX11_ways_49 (by decide) ?_
          refine lv_isub hx hb dX11_ways_50 ?_
          refine lv_iload_n hx hb dX11_ways_51 rfl (lv_at hl 4 rfl) ?_
          refine lv_imul hx hb dX11_ways_52 ?_
          refine lv_aload_n hx hb dX11_ways_53 rfl (lv_at hl 5 rfl) ?_
          refine lv_iconst (v := (4 : Int32)) hx hb dX11_ways_54 (by decide) ?_
          refine lv_iload hx hb dX11_ways_55 (lv_at hl 1 rfl) ?_
          refine lv_imul hx hb dX11_ways_57 ?_
          obtain ⟨z22, h⟩ := h
          refine n_iald hx hb hK (hw.arg hL0 hB0) z22 dX11_ways_58 ?_
          refine lv_iadd hx hb dX11_ways_59 ?_
          obtain ⟨z23, h⟩ := h
          refine n_iald hx hb hK (hw.n (j := 0) rfl) z23 dX11_ways_60 ?_
          refine lv_aload_n hx hb dX11_ways_61 rfl (lv_at hl 3 rfl) ?_
          refine lv_iload hx hb dX11_ways_62 (lv_at hl 2 rfl) ?_
          refine lv_iconst (v := (1 : Int32)) hx hb dX11_ways_64 (by decide) ?_
          refine lv_isub hx hb dX11_ways_65 ?_
          refine lv_iload_n hx hb dX11_ways_66 rfl (lv_at hl 4 rfl) ?_
          refine lv_imul hx hb dX11_ways_67 ?_
          refine lv_aload_n hx hb dX11_ways_68 rfl (lv_at hl 5 rfl) ?_
          refine lv_iconst (v := (4 : Int32)) hx hb dX11_ways_69 (by decide) ?_
          refine lv_iload hx hb dX11_ways_70 (lv_at hl 1 rfl) ?_
          refine lv_imul hx hb dX11_ways_72 ?_
          refine lv_iconst (v := (1 : Int32)) hx hb dX11_ways_73 (by decide) ?_
          refine lv_iadd hx hb dX11_ways_74 ?_
          obtain ⟨z24, h⟩ := h
          refine n_iald hx hb hK (hw.arg hL0 hB0) z24 dX11_ways_75 ?_
          refine lv_iadd hx hb dX11_ways_76 ?_
          obtain ⟨z25, h⟩ := h
          refine n_iald hx hb hK (hw.n (j := 0) rfl) z25 dX11_ways_77 ?_
          refine lv_iadd hx hb dX11_ways_78 ?_
          refine lv_aload_n hx hb dX11_ways_79 rfl (lv_at hl 3 rfl) ?_
          refine lv_iload hx hb dX11_ways_80 (lv_at hl 2 rfl) ?_
          refine lv_iconst (v := (1 : Int32)) hx hb dX11_ways_82 (by decide) ?_
          refine lv_isub hx hb dX11_ways_83 ?_
          refine lv_iload_n hx hb dX11_ways_84 rfl (lv_at hl 4 rfl) ?_
          refine lv_imul hx hb dX11_ways_85 ?_
          refine lv_aload_n hx hb dX11_ways_86 rfl (lv_at hl 5 rfl) ?_
          refine lv_iconst (v := (4 : Int32)) hx hb dX11_ways_87 (by decide) ?_
          refine lv_iload hx hb dX11_ways_88 (lv_at hl 1 rfl) ?_
          refine lv_imul hx hb dX11_ways_90 ?_
          refine lv_iconst (v := (2 : Int32)) hx hb dX11_ways_91 (by decide) ?_
          refine lv_iadd hx hb dX11_ways_92 ?_
          obtain ⟨z26, h⟩ := h
          refine n_iald hx hb hK (hw.arg hL0 hB0) z26 dX11_ways_93 ?_
          refine lv_iadd hx hb dX11_ways_94 ?_
          obtain ⟨z27, h⟩ := h
          refine n_iald hx hb hK (hw.n (j := 0) rfl) z27 dX11_ways_95 ?_
          refine lv_iadd hx hb dX11_ways_96 ?_
          refine lv_istore (lv' := [(6, .int (((f15 (((v12 - (1 : Int32)) * v13) + (fa1 ((4 : Int32) * v11).toNatClampNeg)).toNatClampNeg) + (f15 (((v12 - (1 : Int32)) * v13) + (fa1 (((4 : Int32) * v11) + (1 : Int32)).toNatClampNeg)).toNatClampNeg)) + (f15 (((v12 - (1 : Int32)) * v13) + (fa1 (((4 : Int32) * v11) + (2 : Int32)).toNatClampNeg)).toNatClampNeg))), (5, .int v11), (4, .int v12), (3, .ref q2), (2, .int v13), (0, .ref qa1), (1, .int v14)]) hx hb dX11_ways_97 hl (by decide) rfl (fun ls hl => ?_)
          exact h H locs ls hw (lv_sub hl [0, 1, 2, 3, 4, 5, 6] rfl)
      refine L9 v4 v5 v6 _ ?_ n28 (0 : Int32) f8 H locs ls hw (lv_sub hl [0, 1, 2, 3, 4, 5] rfl) h
      intro f29 H locs ls hw hl h
      refine lv_iinc (v := (v4 + (1 : Int32))) (lv' := [(4, .int (v4 + (1 : Int32))), (3, .ref q2), (2, .int v5), (0, .ref qa1), (1, .int v6)]) hx hb dX11_ways_116 hl (k := 0) rfl rfl (by decide) rfl (fun ls hl => ?_)
      refine lv_goto (tgt := 16) hx hb dX11_ways_119 (by decide) ?_
      exact ih2 (v4 + (1 : Int32)) f29 H locs ls hw (lv_sub hl [0, 1, 2, 3, 4] rfl) h
  exact L2 ((((nI na1) / (4 : Int32)) * (a2 + (1 : Int32))).toNatClampNeg) ((nI na1) / (4 : Int32)) a2 n30 (0 : Int32) (fun _ => 0) H locs ls hw (lv_sub hl [0, 1, 2, 3, 4] rfl) h
def wp_X11_isUnlike (na1 : Nat) (fa1 : Nat → Int32) (na2 : Nat) (fa2 : Nat → Int32) (a3 : Int32) (Q : Int32 → Prop) : Prop :=
  vp_in (((4 : Int32) * (a3 / (32 : Int32))) + (3 : Int32)) na1 ∧ (vp_in (((4 : Int32) * (a3 - a3 / (32 : Int32) * (32 : Int32))) + (3 : Int32)) na2 ∧ (((fa1 (((4 : Int32) * (a3 / (32 : Int32))) + (3 : Int32)).toNatClampNeg) = (fa2 (((4 : Int32) * (a3 - a3 / (32 : Int32) * (32 : Int32))) + (3 : Int32)).toNatClampNeg) → (Q (0 : Int32))) ∧ (¬ (fa1 (((4 : Int32) * (a3 / (32 : Int32))) + (3 : Int32)).toNatClampNeg) = (fa2 (((4 : Int32) * (a3 - a3 / (32 : Int32) * (32 : Int32))) + (3 : Int32)).toNatClampNeg) → (Q (1 : Int32)))))
set_option maxHeartbeats 4000000 in
set_option maxRecDepth 100000 in
theorem c_X11_isUnlike {l : Launch} {D : va_G} {cI cL : ClassId} (qa1 : Nat) (qa2 : Nat)  (sz : Nat) (na1 : Nat) (fa1 : Nat → Int32) (na2 : Nat) (fa2 : Nat → Int32) (a3 : Int32)  {Q : Int32 → Prop} (h : wp_X11_isUnlike na1 fa1 na2 fa2 a3 Q) : SMi l yX11_isUnlike (.code yX11_isUnlike cX11_isUnlike 3 (Option.some Jvm.ClassFile.FieldType.boolean)) 0 0 0 [.ref qa1, .ref qa2, .int a3] D cI cL sz [eI cI qa1 na1 fa1, eI cI qa2 na2 fa2] Q := by
  refine S_meti (by decide +kernel) (Nat.le_of_ble_eq_true rfl) ?_
  intro p e s m below meth c Z ls hx hb hml hown ht hK hP0 hw hret hl
  have hl : lv_has ls 3 [(0, .ref qa1), (1, .ref qa2), (2, .int a3)] := hl
  have hL0 := va_Ph hP0
  have hB0 : ¬ SA s.heap.size qa1 := fun z => absurd hL0.lt (Nat.not_lt.mpr z)
  have hL1 := va_Ph (va_Pt hP0)
  have hB1 : ¬ SA s.heap.size qa2 := fun z => absurd hL1.lt (Nat.not_lt.mpr z)
  suffices hh : ∀ (H : Heap) (locs : List Loc), MW D [] [] (SA s.heap.size) s H locs → W p l e (RA 0 0 0) s m #[.ref qa1, .ref qa2, .int a3] below meth c H locs 0 0 Z (F0 m 0 ls []) from hh _ _ hw
  intro H locs hw
  change vp_in (((4 : Int32) * (a3 / (32 : Int32))) + (3 : Int32)) na1 ∧ (vp_in (((4 : Int32) * (a3 - a3 / (32 : Int32) * (32 : Int32))) + (3 : Int32)) na2 ∧ (((fa1 (((4 : Int32) * (a3 / (32 : Int32))) + (3 : Int32)).toNatClampNeg) = (fa2 (((4 : Int32) * (a3 - a3 / (32 : Int32) * (32 : Int32))) + (3 : Int32)).toNatClampNeg) → (Q (0 : Int32))) ∧ (¬ (fa1 (((4 : Int32) * (a3 / (32 : Int32))) + (3 : Int32)).toNatClampNeg) = (fa2 (((4 : Int32) * (a3 - a3 / (32 : Int32) * (32 : Int32))) + (3 : Int32)).toNatClampNeg) → (Q (1 : Int32))))) at h
  refine lv_aload_n hx hb dX11_isUnlike_0 rfl (lv_at hl 0 rfl) ?_
  refine lv_iconst (v := (4 : Int32)) hx hb dX11_isUnlike_1 (by decide) ?_
  refine lv_iload_n hx hb dX11_isUnlike_2 rfl (lv_at hl 2 rfl) ?_
  refine lv_bipush (v := (32 : Int32)) hx hb dX11_isUnlike_3 (by decide) ?_
  refine lv_idiv hx hb dX11_isUnlike_5 (by decide) ?_
  refine lv_imul hx hb dX11_isUnlike_6 ?_
  refine lv_iconst (v := (3 : Int32)) hx hb dX11_isUnlike_7 (by decide) ?_
  refine lv_iadd hx hb dX11_isUnlike_8 ?_
  obtain ⟨z1, h⟩ := h
  refine n_iald hx hb hK (hw.arg hL0 hB0) z1 dX11_isUnlike_9 ?_
  refine lv_aload_n hx hb dX11_isUnlike_10 rfl (lv_at hl 1 rfl) ?_
  refine lv_iconst (v := (4 : Int32)) hx hb dX11_isUnlike_11 (by decide) ?_
  refine lv_iload_n hx hb dX11_isUnlike_12 rfl (lv_at hl 2 rfl) ?_
  refine lv_bipush (v := (32 : Int32)) hx hb dX11_isUnlike_13 (by decide) ?_
  refine lv_irem hx hb dX11_isUnlike_15 (by decide) ?_
  refine lv_imul hx hb dX11_isUnlike_16 ?_
  refine lv_iconst (v := (3 : Int32)) hx hb dX11_isUnlike_17 (by decide) ?_
  refine lv_iadd hx hb dX11_isUnlike_18 ?_
  obtain ⟨z2, h⟩ := h
  refine n_iald hx hb hK (hw.arg hL1 hB1) z2 dX11_isUnlike_19 ?_
  refine lv_icmp_eq (tgt := 27) hx hb dX11_isUnlike_20 (by decide) (fun c3 => ?_) (fun c3 => ?_)
  · have h := h.1 c3
    refine lv_iconst (v := (0 : Int32)) hx hb dX11_isUnlike_27 (by decide) ?_
    exact hret H locs ls 28 _ _ _ _ hw h rfl (show 0 ≤ 0 by omega) (show 0 ≤ 0 by omega) dX11_isUnlike_28
  have h := h.2 c3
  refine lv_iconst (v := (1 : Int32)) hx hb dX11_isUnlike_23 (by decide) ?_
  refine lv_goto (tgt := 28) hx hb dX11_isUnlike_24 (by decide) ?_
  exact hret H locs ls 28 _ _ _ _ hw h rfl (show 0 ≤ 0 by omega) (show 0 ≤ 0 by omega) dX11_isUnlike_28
def wpl_X11_met_87 (fa1 : Nat → Int32) (na1 : Nat) (fa2 : Nat → Int32) (na2 : Nat) (f17 : Nat → Int32) (n8 : Nat) (v24 : Int32) (v25 : Int32) (v26 : Int32) (v27 : Int32) (v28 : Int32) (v29 : Int32) (K114 : Int32 → Prop) : Nat → Int32 → Prop
  | 0, _ => False
  | n + 1, v23 =>
    (v27 ≤ v23 → (K114 v23)) ∧ (¬ v27 ≤ v23 → (vp_in (((3 : Int32) * v23) + (1 : Int32)) n8 ∧ (((f17 (((3 : Int32) * v23) + (1 : Int32)).toNatClampNeg) = v24 → (K114 v23)) ∧ (¬ (f17 (((3 : Int32) * v23) + (1 : Int32)).toNatClampNeg) = v24 → (wpl_X11_met_87 fa1 na1 fa2 na2 f17 n8 v24 v25 v26 v27 v28 v29 K114 n (v23 + (1 : Int32)))))))
def wpl_X11_met_27 (fa1 : Nat → Int32) (na1 : Nat) (fa2 : Nat → Int32) (na2 : Nat) (n8 : Nat) (v13 : Int32) (v15 : Int32) (v16 : Int32) (K199 : Int32 → (Nat → Int32) → Prop) (Q : Nat → (Nat → Int32) → Prop) : Nat → Int32 → Int32 → (Nat → Int32) → Prop
  | 0, _, _, _ => False
  | n + 1, v12, v14, f17 =>
    ((3 : Int32) ≤ v12 → (K199 v14 f17)) ∧ (¬ (3 : Int32) ≤ v12 → (vp_in (((3 : Int32) * v13) + (1 : Int32)) n8 ∧ (∀ J20 : Int32 → Prop, (∀ (j21 : Int32), (∃ n21x, wpl_X11_met_87 fa1 na1 fa2 na2 f17 n8 j21 v12 v13 v14 v15 v16 (fun (u34 : Int32) => ∀ J35 : Int32 → (Nat → Int32) → Prop, (∀ (j36 : Int32) (f37 : Nat → Int32), (vp_in (0 : Int32) n8 ∧ ((v15 < j36 → (Q n8 (upd f37 (0 : Int32).toNatClampNeg j36))) ∧ (¬ v15 < j36 → ((v16 = 0 → (wpl_X11_met_27 fa1 na1 fa2 na2 n8 v13 v15 v16 K199 Q n (v12 + (1 : Int32)) j36 (upd f37 (0 : Int32).toNatClampNeg j36))) ∧ (¬ v16 = 0 → (vp_in (((3 : Int32) * j36) - (2 : Int32)) n8 ∧ (wp_X11_isUnlike na1 fa1 na2 fa2 ((upd f37 (0 : Int32).toNatClampNeg j36) (((3 : Int32) * j36) - (2 : Int32)).toNatClampNeg) (fun (r42 : Int32) => (r42 = 0 → (wpl_X11_met_27 fa1 na1 fa2 na2 n8 v13 v15 v16 K199 Q n (v12 + (1 : Int32)) j36 (upd f37 (0 : Int32).toNatClampNeg j36))) ∧ (¬ r42 = 0 → (Q n8 (upd f37 (0 : Int32).toNatClampNeg j36))))))))))) → J35 j36 f37) → ((¬ u34 = v14 → (J35 v14 f17)) ∧ (u34 = v14 → (vp_in (((3 : Int32) * v14) + (1 : Int32)) n8 ∧ (vp_in (((3 : Int32) * v14) + (2 : Int32)) n8 ∧ (vp_in (((3 : Int32) * v14) + (3 : Int32)) n8 ∧ (J35 (v14 + (1 : Int32)) (upd (upd (upd f17 (((3 : Int32) * v14) + (1 : Int32)).toNatClampNeg j21) (((3 : Int32) * v14) + (2 : Int32)).toNatClampNeg v13) (((3 : Int32) * v14) + (3 : Int32)).toNatClampNeg v12)))))))) n21x (0 : Int32)) → J20 j21) → ((0 ≤ v12 → (vp_in (((4 : Int32) * ((f17 (((3 : Int32) * v13) + (1 : Int32)).toNatClampNeg) / (32 : Int32))) + v12) na1 ∧ (vp_in (((4 : Int32) * ((f17 (((3 : Int32) * v13) + (1 : Int32)).toNatClampNeg) - (f17 (((3 : Int32) * v13) + (1 : Int32)).toNatClampNeg) / (32 : Int32) * (32 : Int32))) + v12) na2 ∧ (J20 (((fa1 (((4 : Int32) * ((f17 (((3 : Int32) * v13) + (1 : Int32)).toNatClampNeg) / (32 : Int32))) + v12).toNatClampNeg) * (32 : Int32)) + (fa2 (((4 : Int32) * ((f17 (((3 : Int32) * v13) + (1 : Int32)).toNatClampNeg) - (f17 (((3 : Int32) * v13) + (1 : Int32)).toNatClampNeg) / (32 : Int32) * (32 : Int32))) + v12).toNatClampNeg)))))) ∧ (¬ 0 ≤ v12 → (J20 (f17 (((3 : Int32) * v13) + (1 : Int32)).toNatClampNeg)))))))
def wpl_X11_met_17 (fa1 : Nat → Int32) (na1 : Nat) (fa2 : Nat → Int32) (na2 : Nat) (n8 : Nat) (v6 : Int32) (v7 : Int32) (Q : Nat → (Nat → Int32) → Prop) : Nat → Int32 → Int32 → (Nat → Int32) → Prop
  | 0, _, _, _ => False
  | n + 1, v4, v5, f9 =>
    (v5 ≤ v4 → (Q n8 f9)) ∧ (¬ v5 ≤ v4 → (∃ n10x, wpl_X11_met_27 fa1 na1 fa2 na2 n8 v4 v6 v7 (fun (u52 : Int32) (f53 : Nat → Int32) => wpl_X11_met_17 fa1 na1 fa2 na2 n8 v6 v7 Q n (v4 + (1 : Int32)) u52 f53) Q n10x (-1 : Int32) v5 f9))
def wp_X11_met (na1 : Nat) (fa1 : Nat → Int32) (na2 : Nat) (fa2 : Nat → Int32) (a3 : Int32) (a4 : Int32) (Q : Nat → (Nat → Int32) → Prop) : Prop :=
  (¬ (((3 : Int32) * (a3 + (1 : Int32))) + (1 : Int32)) < 0 ∧ (((3 : Int32) * (a3 + (1 : Int32))) + (1 : Int32)).toNatClampNeg ≤ 604) ∧ (∃ n2x, wpl_X11_met_17 fa1 na1 fa2 na2 ((((3 : Int32) * (a3 + (1 : Int32))) + (1 : Int32)).toNatClampNeg) a3 a4 Q n2x (0 : Int32) (1 : Int32) (fun _ => 0))
set_option maxHeartbeats 4000000 in
set_option maxRecDepth 100000 in
theorem c_X11_met {l : Launch} {D : va_G} {cI cL : ClassId} (qa1 : Nat) (qa2 : Nat)  (sz : Nat) (na1 : Nat) (fa1 : Nat → Int32) (na2 : Nat) (fa2 : Nat → Int32) (a3 : Int32) (a4 : Int32)  {Q : Nat → (Nat → Int32) → Prop} (h : wp_X11_met na1 fa1 na2 fa2 a3 a4 Q) : SMA l yX11_met (.code yX11_met cX11_met 11 (Option.some (Jvm.ClassFile.FieldType.array Jvm.ClassFile.FieldType.int))) 1 1 604 [.ref qa1, .ref qa2, .int a3, .int a4] D cI cL sz [eI cI qa1 na1 fa1, eI cI qa2 na2 fa2] (fun o => ∃ n f, o = some (n, f) ∧ Q n f) := by
  refine S_metA (by decide +kernel) (Nat.le_of_ble_eq_true rfl) ?_
  intro p e s m below meth c Z ls hx hb hml hown ht hK hP0 hw hret hretN hl
  have hl : lv_has ls 11 [(0, .ref qa1), (1, .ref qa2), (2, .int a3), (3, .int a4)] := hl
  have hL0 := va_Ph hP0
  have hB0 : ¬ SA s.heap.size qa1 := fun z => absurd hL0.lt (Nat.not_lt.mpr z)
  have hL1 := va_Ph (va_Pt hP0)
  have hB1 : ¬ SA s.heap.size qa2 := fun z => absurd hL1.lt (Nat.not_lt.mpr z)
  suffices hh : ∀ (H : Heap) (locs : List Loc), MW D [] [] (SA s.heap.size) s H locs → W p l e (RA 1 1 604) s m #[.ref qa1, .ref qa2, .int a3, .int a4] below meth c H locs 0 0 Z (F0 m 0 ls []) from hh _ _ hw
  intro H locs hw
  change (¬ (((3 : Int32) * (a3 + (1 : Int32))) + (1 : Int32)) < 0 ∧ (((3 : Int32) * (a3 + (1 : Int32))) + (1 : Int32)).toNatClampNeg ≤ 604) ∧ (∃ n2x, wpl_X11_met_17 fa1 na1 fa2 na2 ((((3 : Int32) * (a3 + (1 : Int32))) + (1 : Int32)).toNatClampNeg) a3 a4 Q n2x (0 : Int32) (1 : Int32) (fun _ => 0)) at h
  refine lv_iconst (v := (3 : Int32)) hx hb dX11_met_0 (by decide) ?_
  refine lv_iload_n hx hb dX11_met_1 rfl (lv_at hl 2 rfl) ?_
  refine lv_iconst (v := (1 : Int32)) hx hb dX11_met_2 (by decide) ?_
  refine lv_iadd hx hb dX11_met_3 ?_
  refine lv_imul hx hb dX11_met_4 ?_
  refine lv_iconst (v := (1 : Int32)) hx hb dX11_met_5 (by decide) ?_
  refine lv_iadd hx hb dX11_met_6 ?_
  obtain ⟨z1, h⟩ := h
  refine n_newI (B := 604) hx hb ht q_128 hK hw z1 (by decide) (show 0 + 1 ≤ 1 by omega) (show 0 + 604 ≤ 604 by omega) dX11_met_7 (fun q2 H hq2 hw => ?_)
  have hw : MW D [] [eI cI q2 ((((3 : Int32) * (a3 + (1 : Int32))) + (1 : Int32)).toNatClampNeg) (fun _ => 0)] (SA s.heap.size) s H locs := hw
  refine lv_astore (lv' := [(4, .ref q2), (0, .ref qa1), (1, .ref qa2), (2, .int a3), (3, .int a4)]) hx hb dX11_met_9 hl (by decide) rfl (fun ls hl => ?_)
  refine lv_iconst (v := (1 : Int32)) hx hb dX11_met_11 (by decide) ?_
  refine lv_istore (lv' := [(5, .int (1 : Int32)), (4, .ref q2), (0, .ref qa1), (1, .ref qa2), (2, .int a3), (3, .int a4)]) hx hb dX11_met_12 hl (by decide) rfl (fun ls hl => ?_)
  refine lv_iconst (v := (0 : Int32)) hx hb dX11_met_14 (by decide) ?_
  refine lv_istore (lv' := [(6, .int (0 : Int32)), (5, .int (1 : Int32)), (4, .ref q2), (0, .ref qa1), (1, .ref qa2), (2, .int a3), (3, .int a4)]) hx hb dX11_met_15 hl (by decide) rfl (fun ls hl => ?_)
  obtain ⟨n54, h⟩ := h
  have L2 : ∀ (n8 : Nat) (v6 : Int32) (v7 : Int32), ∀ (n : Nat), ∀ (v4 : Int32) (v5 : Int32) (f9 : Nat → Int32), ∀ (H : Heap) (locs : List Loc) (ls : Array Slot), MW D [] [eI cI q2 n8 f9] (SA s.heap.size) s H locs → lv_has ls 11 [(6, .int v4), (5, .int v5), (4, .ref q2), (0, .ref qa1), (1, .ref qa2), (2, .int v6), (3, .int v7)] → wpl_X11_met_17 fa1 na1 fa2 na2 n8 v6 v7 Q n v4 v5 f9 → W p l e (RA 1 1 604) s m #[.ref qa1, .ref qa2, .int a3, .int a4] below meth c H locs 1 604 Z (F0 m 17 ls []) := by
    intro n8 v6 v7
    intro n
    induction n with
    | zero => intro v4 v5 f9 H locs ls hw hl h; exact False.elim h
    | succ n ih2 =>
      intro v4 v5 f9 H locs ls hw hl h
      change (v5 ≤ v4 → (Q n8 f9)) ∧ (¬ v5 ≤ v4 → (∃ n10x, wpl_X11_met_27 fa1 na1 fa2 na2 n8 v4 v6 v7 (fun (u52 : Int32) (f53 : Nat → Int32) => wpl_X11_met_17 fa1 na1 fa2 na2 n8 v6 v7 Q n (v4 + (1 : Int32)) u52 f53) Q n10x (-1 : Int32) v5 f9)) at h
      refine lv_iload hx hb dX11_met_17 (lv_at hl 0 rfl) ?_
      refine lv_iload hx hb dX11_met_19 (lv_at hl 1 rfl) ?_
      refine lv_icmp_ge (tgt := 205) hx hb dX11_met_21 (by decide) (fun c10 => ?_) (fun c10 => ?_)
      · have h := h.1 c10
        refine lv_aload hx hb dX11_met_205 (lv_at hl 2 rfl) ?_
        exact hret H locs ls 207 _ _ _ 0 _ _ _ hw rfl hq2 ⟨_, _, rfl, h⟩ (show 1 ≤ 1 by omega) (show 604 ≤ 604 by omega) dX11_met_207
      have h := h.2 c10
      refine lv_iconst (v := (-1 : Int32)) hx hb dX11_met_24 (by decide) ?_
      refine lv_istore (lv' := [(7, .int (-1 : Int32)), (6, .int v4), (5, .int v5), (4, .ref q2), (0, .ref qa1), (1, .ref qa2), (2, .int v6), (3, .int v7)]) hx hb dX11_met_25 hl (by decide) rfl (fun ls hl => ?_)
      obtain ⟨n51, h⟩ := h
      have L10 : ∀ (v13 : Int32) (v15 : Int32) (v16 : Int32) (K199 : Int32 → (Nat → Int32) → Prop), (∀ (v14 : Int32) (f17 : Nat → Int32), ∀ (H : Heap) (locs : List Loc) (ls : Array Slot), MW D [] [eI cI q2 n8 f17] (SA s.heap.size) s H locs → lv_has ls 11 [(6, .int v13), (5, .int v14), (4, .ref q2), (0, .ref qa1), (1, .ref qa2), (2, .int v15), (3, .int v16)] → K199 v14 f17 → W p l e (RA 1 1 604) s m #[.ref qa1, .ref qa2, .int a3, .int a4] below meth c H locs 1 604 Z (F0 m 199 ls [])) → ∀ (n : Nat), ∀ (v12 : Int32) (v14 : Int32) (f17 : Nat → Int32), ∀ (H : Heap) (locs : List Loc) (ls : Array Slot), MW D [] [eI cI q2 n8 f17] (SA s.heap.size) s H locs → lv_has ls 11 [(7, .int v12), (6, .int v13), (5, .int v14), (4, .ref q2), (0, .ref qa1), (1, .ref qa2), (2, .int v15), (3, .int v16)] → wpl_X11_met_27 fa1 na1 fa2 na2 n8 v13 v15 v16 K199 Q n v12 v14 f17 → W p l e (RA 1 1 604) s m #[.ref qa1, .ref qa2, .int a3, .int a4] below meth c H locs 1 604 Z (F0 m 27 ls []) := by
        intro v13 v15 v16 K199 hK199
        intro n
        induction n with
        | zero => intro v12 v14 f17 H locs ls hw hl h; exact False.elim h
        | succ n ih10 =>
          intro v12 v14 f17 H locs ls hw hl h
          change ((3 : Int32) ≤ v12 → (K199 v14 f17)) ∧ (¬ (3 : Int32) ≤ v12 → (vp_in (((3 : Int32) * v13) + (1 : Int32)) n8 ∧ (∀ J20 : Int32 → Prop, (∀ (j21 : Int32), (∃ n21x, wpl_X11_met_87 fa1 na1 fa2 na2 f17 n8 j21 v12 v13 v14 v15 v16 (fun (u34 : Int32) => ∀ J35 : Int32 → (Nat → Int32) → Prop, (∀ (j36 : Int32) (f37 : Nat → Int32), (vp_in (0 : Int32) n8 ∧ ((v15 < j36 → (Q n8 (upd f37 (0 : Int32).toNatClampNeg j36))) ∧ (¬ v15 < j36 → ((v16 = 0 → (wpl_X11_met_27 fa1 na1 fa2 na2 n8 v13 v15 v16 K199 Q n (v12 + (1 : Int32)) j36 (upd f37 (0 : Int32).toNatClampNeg j36))) ∧ (¬ v16 = 0 → (vp_in (((3 : Int32) * j36) - (2 : Int32)) n8 ∧ (wp_X11_isUnlike na1 fa1 na2 fa2 ((upd f37 (0 : Int32).toNatClampNeg j36) (((3 : Int32) * j36) - (2 : Int32)).toNatClampNeg) (fun (r42 : Int32) => (r42 = 0 → (wpl_X11_met_27 fa1 na1 fa2 na2 n8 v13 v15 v16 K199 Q n (v12 + (1 : Int32)) j36 (upd f37 (0 : Int32).toNatClampNeg j36))) ∧ (¬ r42 = 0 → (Q n8 (upd f37 (0 : Int32).toNatClampNeg j36))))))))))) → J35 j36 f37) → ((¬ u34 = v14 → (J35 v14 f17)) ∧ (u34 = v14 → (vp_in (((3 : Int32) * v14) + (1 : Int32)) n8 ∧ (vp_in (((3 : Int32) * v14) + (2 : Int32)) n8 ∧ (vp_in (((3 : Int32) * v14) + (3 : Int32)) n8 ∧ (J35 (v14 + (1 : Int32)) (upd (upd (upd f17 (((3 : Int32) * v14) + (1 : Int32)).toNatClampNeg j21) (((3 : Int32) * v14) + (2 : Int32)).toNatClampNeg v13) (((3 : Int32) * v14) + (3 : Int32)).toNatClampNeg v12)))))))) n21x (0 : Int32)) → J20 j21) → ((0 ≤ v12 → (vp_in (((4 : Int32) * ((f17 (((3 : Int32) * v13) + (1 : Int32)).toNatClampNeg) / (32 : Int32))) + v12) na1 ∧ (vp_in (((4 : Int32) * ((f17 (((3 : Int32) * v13) + (1 : Int32)).toNatClampNeg) - (f17 (((3 : Int32) * v13) + (1 : Int32)).toNatClampNeg) / (32 : Int32) * (32 : Int32))) + v12) na2 ∧ (J20 (((fa1 (((4 : Int32) * ((f17 (((3 : Int32) * v13) + (1 : Int32)).toNatClampNeg) / (32 : Int32))) + v12).toNatClampNeg) * (32 : Int32)) + (fa2 (((4 : Int32) * ((f17 (((3 : Int32) * v13) + (1 : Int32)).toNatClampNeg) - (f17 (((3 : Int32) * v13) + (1 : Int32)).toNatClampNeg) / (32 : Int32) * (32 : Int32))) + v12).toNatClampNeg)))))) ∧ (¬ 0 ≤ v12 → (J20 (f17 (((3 : Int32) * v13) + (1 : Int32)).toNatClampNeg))))))) at h
          refine lv_iload hx hb dX11_met_27 (lv_at hl 0 rfl) ?_
          refine lv_iconst (v := (3 : Int32)) hx hb dX11_met_29 (by decide) ?_
          refine lv_icmp_ge (tgt := 199) hx hb dX11_met_30 (by decide) (fun c18 => ?_) (fun c18 => ?_)
          · have h := h.1 c18
            exact hK199 v14 f17 H locs ls hw (lv_sub hl [1, 2, 3, 4, 5, 6, 7] rfl) h
          have h := h.2 c18
          refine lv_aload hx hb dX11_met_33 (lv_at hl 3 rfl) ?_
          refine lv_iconst (v := (3 : Int32)) hx hb dX11_met_35 (by decide) ?_
          refine lv_iload hx hb dX11_met_36 (lv_at hl 1 rfl) ?_
          refine lv_imul hx hb dX11_met_38 ?_
          refine lv_iconst (v := (1 : Int32)) hx hb dX11_met_39 (by decide) ?_
          refine lv_iadd hx hb dX11_met_40 ?_
          obtain ⟨z19, h⟩ := h
          refine n_iald hx hb hK (hw.n (j := 0) rfl) z19 dX11_met_41 ?_
          refine lv_istore (lv' := [(8, .int (f17 (((3 : Int32) * v13) + (1 : Int32)).toNatClampNeg)), (7, .int v12), (6, .int v13), (5, .int v14), (4, .ref q2), (0, .ref qa1), (1, .ref qa2), (2, .int v15), (3, .int v16)]) hx hb dX11_met_42 hl (by decide) rfl (fun ls hl => ?_)
          refine lv_iload hx hb dX11_met_44 (lv_at hl 1 rfl) ?_
          have h := h (fun (j21 : Int32) => ∀ (H : Heap) (locs : List Loc) (ls : Array Slot), MW D [] [eI cI q2 n8 f17] (SA s.heap.size) s H locs → lv_has ls 11 [(7, .int v12), (6, .int v13), (5, .int v14), (4, .ref q2), (0, .ref qa1), (1, .ref qa2), (2, .int v15), (3, .int v16)] → W p l e (RA 1 1 604) s m #[.ref qa1, .ref qa2, .int a3, .int a4] below meth c H locs 1 604 Z (F0 m 82 ls [.int j21])) (fun j21 h H locs ls hw hl => by
            refine lv_istore (lv' := [(9, .int j21), (7, .int v12), (6, .int v13), (5, .int v14), (4, .ref q2), (0, .ref qa1), (1, .ref qa2), (2, .int v15), (3, .int v16)]) hx hb dX11_met_82 hl (by decide) rfl (fun ls hl => ?_)
            refine lv_iconst (v := (0 : Int32)) hx hb dX11_met_84 (by decide) ?_
            refine lv_istore (lv' := [(10, .int (0 : Int32)), (9, .int j21), (7, .int v12), (6, .int v13), (5, .int v14), (4, .ref q2), (0, .ref qa1), (1, .ref qa2), (2, .int v15), (3, .int v16)]) hx hb dX11_met_85 hl (by decide) rfl (fun ls hl => ?_)
            obtain ⟨n33, h⟩ := h
            have L21 : ∀ (v24 : Int32) (v25 : Int32) (v26 : Int32) (v27 : Int32) (v28 : Int32) (v29 : Int32) (K114 : Int32 → Prop), (∀ (v23 : Int32), ∀ (H : Heap) (locs : List Loc) (ls : Array Slot), MW D [] [eI cI q2 n8 f17] (SA s.heap.size) s H locs → lv_has ls 11 [(10, .int v23), (9, .int v24), (7, .int v25), (6, .int v26), (5, .int v27), (4, .ref q2), (0, .ref qa1), (1, .ref qa2), (2, .int v28), (3, .int v29)] → K114 v23 → W p l e (RA 1 1 604) s m #[.ref qa1, .ref qa2, .int a3, .int a4] below meth c H locs 1 604 Z (F0 m 114 ls [])) → ∀ (n : Nat), ∀ (v23 : Int32), ∀ (H : Heap) (locs : List Loc) (ls : Array Slot), MW D [] [eI cI q2 n8 f17] (SA s.heap.size) s H locs → lv_has ls 11 [(10, .int v23), (9, .int v24), (7, .int v25), (6, .int v26), (5, .int v27), (4, .ref q2), (0, .ref qa1), (1, .ref qa2), (2, .int v28), (3, .int v29)] → wpl_X11_met_87 fa1 na1 fa2 na2 f17 n8 v24 v25 v26 v27 v28 v29 K114 n v23 → W p l e (RA 1 1 604) s m #[.ref qa1, .ref qa2, .int a3, .int a4] below meth c H locs 1 604 Z (F0 m 87 ls []) := by
              intro v24 v25 v26 v27 v28 v29 K114 hK114
              intro n
              induction n with
              | zero => intro v23 H locs ls hw hl h; exact False.elim h
              | succ n ih21 =>
                intro v23 H locs ls hw hl h
                change (v27 ≤ v23 → (K114 v23)) ∧ (¬ v27 ≤ v23 → (vp_in (((3 : Int32) * v23) + (1 : Int32)) n8 ∧ (((f17 (((3 : Int32) * v23) + (1 : Int32)).toNatClampNeg) = v24 → (K114 v23)) ∧ (¬ (f17 (((3 : Int32) * v23) + (1 : Int32)).toNatClampNeg) = v24 → (wpl_X11_met_87 fa1 na1 fa2 na2 f17 n8 v24 v25 v26 v27 v28 v29 K114 n (v23 + (1 : Int32))))))) at h
                refine lv_iload hx hb dX11_met_87 (lv_at hl 0 rfl) ?_
                refine lv_iload hx hb dX11_met_89 (lv_at hl 4 rfl) ?_
                refine lv_icmp_ge (tgt := 114) hx hb dX11_met_91 (by decide) (fun c30 => ?_) (fun c30 => ?_)
                · have h := h.1 c30
                  exact hK114 v23 H locs ls hw (lv_sub hl [0, 1, 2, 3, 4, 5, 6, 7, 8, 9] rfl) h
                have h := h.2 c30
                refine lv_aload hx hb dX11_met_94 (lv_at hl 5 rfl) ?_
                refine lv_iconst (v := (3 : Int32)) hx hb dX11_met_96 (by decide) ?_
                refine lv_iload hx hb dX11_met_97 (lv_at hl 0 rfl) ?_
                refine lv_imul hx hb dX11_met_99 ?_
                refine lv_iconst (v := (1 : Int32)) hx hb dX11_met_100 (by decide) ?_
                refine lv_iadd hx hb dX11_met_101 ?_
                obtain ⟨z31, h⟩ := h
                refine n_iald hx hb hK (hw.n (j := 0) rfl) z31 dX11_met_102 ?_
                refine lv_iload hx hb dX11_met_103 (lv_at hl 1 rfl) ?_
                refine lv_icmp_eq (tgt := 114) hx hb dX11_met_105 (by decide) (fun c32 => ?_) (fun c32 => ?_)
                · have h := h.1 c32
                  exact hK114 v23 H locs ls hw (lv_sub hl [0, 1, 2, 3, 4, 5, 6, 7, 8, 9] rfl) h
                have h := h.2 c32
                refine lv_iinc (v := (v23 + (1 : Int32))) (lv' := [(10, .int (v23 + (1 : Int32))), (9, .int v24), (7, .int v25), (6, .int v26), (5, .int v27), (4, .ref q2), (0, .ref qa1), (1, .ref qa2), (2, .int v28), (3, .int v29)]) hx hb dX11_met_108 hl (k := 0) rfl rfl (by decide) rfl (fun ls hl => ?_)
                refine lv_goto (tgt := 87) hx hb dX11_met_111 (by decide) ?_
                exact ih21 (v23 + (1 : Int32)) H locs ls hw (lv_sub hl [0, 1, 2, 3, 4, 5, 6, 7, 8, 9] rfl) h
            refine L21 j21 v12 v13 v14 v15 v16 _ ?_ n33 (0 : Int32) H locs ls hw (lv_sub hl [0, 1, 2, 3, 4, 5, 6, 7, 8, 9] rfl) h
            intro u34 H locs ls hw hl h
            refine lv_iload hx hb dX11_met_114 (lv_at hl 0 rfl) ?_
            refine lv_iload hx hb dX11_met_116 (lv_at hl 4 rfl) ?_
            have h := h (fun (j36 : Int32) (f37 : Nat → Int32) => ∀ (H : Heap) (locs : List Loc) (ls : Array Slot), MW D [] [eI cI q2 n8 f37] (SA s.heap.size) s H locs → lv_has ls 11 [(7, .int v12), (6, .int v13), (5, .int j36), (4, .ref q2), (0, .ref qa1), (1, .ref qa2), (2, .int v15), (3, .int v16)] → W p l e (RA 1 1 604) s m #[.ref qa1, .ref qa2, .int a3, .int a4] below meth c H locs 1 604 Z (F0 m 157 ls [])) (fun j36 f37 h H locs ls hw hl => by
              refine lv_aload hx hb dX11_met_157 (lv_at hl 3 rfl) ?_
              refine lv_iconst (v := (0 : Int32)) hx hb dX11_met_159 (by decide) ?_
              refine lv_iload hx hb dX11_met_160 (lv_at hl 2 rfl) ?_
              obtain ⟨z38, h⟩ := h
              refine n_iast (j := 0) hx hb hK hw rfl z38 dX11_met_162 (fun H locs hw => ?_)
              have hw : MW D [] [eI cI q2 n8 (upd f37 (0 : Int32).toNatClampNeg j36)] (SA s.heap.size) s H locs := hw
              refine lv_iload hx hb dX11_met_163 (lv_at hl 2 rfl) ?_
              refine lv_iload_n hx hb dX11_met_165 rfl (lv_at hl 6 rfl) ?_
              refine lv_icmp_gt (tgt := 190) hx hb dX11_met_166 (by decide) (fun c39 => ?_) (fun c39 => ?_)
              · have h := h.1 c39
                refine lv_aload hx hb dX11_met_190 (lv_at hl 3 rfl) ?_
                exact hret H locs ls 192 _ _ _ 0 _ _ _ hw rfl hq2 ⟨_, _, rfl, h⟩ (show 1 ≤ 1 by omega) (show 604 ≤ 604 by omega) dX11_met_192
              have h := h.2 c39
              refine lv_iload_n hx hb dX11_met_169 rfl (lv_at hl 7 rfl) ?_
              refine lv_if_eq (tgt := 193) hx hb dX11_met_170 (by decide) (fun c40 => ?_) (fun c40 => ?_)
              · have h := h.1 c40
                refine lv_iinc (v := (v12 + (1 : Int32))) (lv' := [(7, .int (v12 + (1 : Int32))), (6, .int v13), (5, .int j36), (4, .ref q2), (0, .ref qa1), (1, .ref qa2), (2, .int v15), (3, .int v16)]) hx hb dX11_met_193 hl (k := 0) rfl rfl (by decide) rfl (fun ls hl => ?_)
                refine lv_goto (tgt := 27) hx hb dX11_met_196 (by decide) ?_
                exact ih10 (v12 + (1 : Int32)) j36 (upd f37 (0 : Int32).toNatClampNeg j36) H locs ls hw (lv_sub hl [0, 1, 2, 3, 4, 5, 6, 7] rfl) h
              have h := h.2 c40
              refine lv_aload_n hx hb dX11_met_173 rfl (lv_at hl 4 rfl) ?_
              refine lv_aload_n hx hb dX11_met_174 rfl (lv_at hl 5 rfl) ?_
              refine lv_aload hx hb dX11_met_175 (lv_at hl 3 rfl) ?_
              refine lv_iconst (v := (3 : Int32)) hx hb dX11_met_177 (by decide) ?_
              refine lv_iload hx hb dX11_met_178 (lv_at hl 2 rfl) ?_
              refine lv_imul hx hb dX11_met_180 ?_
              refine lv_iconst (v := (2 : Int32)) hx hb dX11_met_181 (by decide) ?_
              refine lv_isub hx hb dX11_met_182 ?_
              obtain ⟨z41, h⟩ := h
              refine n_iald hx hb hK (hw.n (j := 0) rfl) z41 dX11_met_183 ?_
              refine S_calli hw (va_runS (own := "LeastreaderModel") (As := [.ref qa1, .ref qa2, .int ((upd f37 (0 : Int32).toNatClampNeg j36) (((3 : Int32) * j36) - (2 : Int32)).toNatClampNeg)]) (rest := []) ⟨hx, hb, hml, hown, ht⟩ (c_X11_isUnlike qa1 qa2 H.size na1 fa1 na2 fa2 ((upd f37 (0 : Int32).toNatClampNeg j36) (((3 : Int32) * j36) - (2 : Int32)).toNatClampNeg) h) (va_cwS 3 ht (G_S q_1490 q_1491 q_56 q_1492) rfl rfl rfl hd_89 ⟨Nat.le_of_ble_eq_true rfl, Nat.le_of_ble_eq_true rfl⟩) ⟨SB.blind, SB.pre hK (va_Pc2 (hw.arg hL0 hB0) (va_Pc2 (hw.arg hL1 hB1) va_P0))⟩ rfl rfl hl.1 rfl (lv_room (Nat.le_of_ble_eq_true rfl)) dX11_met_184 ⟨show 1 + 0 ≤ 1 by omega, show 604 + 0 ≤ 604 by omega⟩) (fun r42 H locs h hw => ?_)
              refine lv_if_eq (tgt := 193) hx hb dX11_met_187 (by decide) (fun c43 => ?_) (fun c43 => ?_)
              · have h := h.1 c43
                refine lv_iinc (v := (v12 + (1 : Int32))) (lv' := [(7, .int (v12 + (1 : Int32))), (6, .int v13), (5, .int j36), (4, .ref q2), (0, .ref qa1), (1, .ref qa2), (2, .int v15), (3, .int v16)]) hx hb dX11_met_193 hl (k := 0) rfl rfl (by decide) rfl (fun ls hl => ?_)
                refine lv_goto (tgt := 27) hx hb dX11_met_196 (by decide) ?_
                exact ih10 (v12 + (1 : Int32)) j36 (upd f37 (0 : Int32).toNatClampNeg j36) H locs ls hw (lv_sub hl [0, 1, 2, 3, 4, 5, 6, 7] rfl) h
              have h := h.2 c43
              refine lv_aload hx hb dX11_met_190 (lv_at hl 3 rfl) ?_
              exact hret H locs ls 192 _ _ _ 0 _ _ _ hw rfl hq2 ⟨_, _, rfl, h⟩ (show 1 ≤ 1 by omega) (show 604 ≤ 604 by omega) dX11_met_192)
            refine lv_icmp_ne (tgt := 157) hx hb dX11_met_118 (by decide) (fun c44 => ?_) (fun c44 => ?_)
            · have h := h.1 c44
              exact h H locs ls hw (lv_sub hl [2, 3, 4, 5, 6, 7, 8, 9] rfl)
            have h := h.2 c44
            refine lv_aload hx hb dX11_met_121 (lv_at hl 5 rfl) ?_
            refine lv_iconst (v := (3 : Int32)) hx hb dX11_met_123 (by decide) ?_
            refine lv_iload hx hb dX11_met_124 (lv_at hl 4 rfl) ?_
            refine lv_imul hx hb dX11_met_126 ?_
            refine lv_iconst (v := (1 : Int32)) hx hb dX11_met_127 (by decide) ?_
            refine lv_iadd hx hb dX11_met_128 ?_
            refine lv_iload hx hb dX11_met_129 (lv_at hl 1 rfl) ?_
            obtain ⟨z45, h⟩ := h
            refine n_iast (j := 0) hx hb hK hw rfl z45 dX11_met_131 (fun H locs hw => ?_)
            have hw : MW D [] [eI cI q2 n8 (upd f17 (((3 : Int32) * v14) + (1 : Int32)).toNatClampNeg j21)] (SA s.heap.size) s H locs := hw
            refine lv_aload hx hb dX11_met_132 (lv_at hl 5 rfl) ?_
            refine lv_iconst (v := (3 : Int32)) hx hb dX11_met_134 (by decide) ?_
            refine lv_iload hx hb dX11_met_135 (lv_at hl 4 rfl) ?_
            refine lv_imul hx hb dX11_met_137 ?_
            refine lv_iconst (v := (2 : Int32)) hx hb dX11_met_138 (by decide) ?_
            refine lv_iadd hx hb dX11_met_139 ?_
            refine lv_iload hx hb dX11_met_140 (lv_at hl 3 rfl) ?_
            obtain ⟨z46, h⟩ := h
            refine n_iast (j := 0) hx hb hK hw rfl z46 dX11_met_142 (fun H locs hw => ?_)
            have hw : MW D [] [eI cI q2 n8 (upd (upd f17 (((3 : Int32) * v14) + (1 : Int32)).toNatClampNeg j21) (((3 : Int32) * v14) + (2 : Int32)).toNatClampNeg v13)] (SA s.heap.size) s H locs := hw
            refine lv_aload hx hb dX11_met_143 (lv_at hl 5 rfl) ?_
            refine lv_iconst (v := (3 : Int32)) hx hb dX11_met_145 (by decide) ?_
            refine lv_iload hx hb dX11_met_146 (lv_at hl 4 rfl) ?_
            refine lv_imul hx hb dX11_met_148 ?_
            refine lv_iconst (v := (3 : Int32)) hx hb dX11_met_149 (by decide) ?_
            refine lv_iadd hx hb dX11_met_150 ?_
            refine lv_iload hx hb dX11_met_151 (lv_at hl 2 rfl) ?_
            obtain ⟨z47, h⟩ := h
            refine n_iast (j := 0) hx hb hK hw rfl z47 dX11_met_153 (fun H locs hw => ?_)
            have hw : MW D [] [eI cI q2 n8 (upd (upd (upd f17 (((3 : Int32) * v14) + (1 : Int32)).toNatClampNeg j21) (((3 : Int32) * v14) + (2 : Int32)).toNatClampNeg v13) (((3 : Int32) * v14) + (3 : Int32)).toNatClampNeg v12)] (SA s.heap.size) s H locs := hw
            refine lv_iinc (v := (v14 + (1 : Int32))) (lv' := [(5, .int (v14 + (1 : Int32))), (10, .int u34), (9, .int j21), (7, .int v12), (6, .int v13), (4, .ref q2), (0, .ref qa1), (1, .ref qa2), (2, .int v15), (3, .int v16)]) hx hb dX11_met_154 hl (k := 4) rfl rfl (by decide) rfl (fun ls hl => ?_)
            exact h H locs ls hw (lv_sub hl [3, 4, 0, 5, 6, 7, 8, 9] rfl))
          refine lv_if_ge (tgt := 54) hx hb dX11_met_46 (by decide) (fun c48 => ?_) (fun c48 => ?_)
          · have h := h.1 c48
            refine lv_aload_n hx hb dX11_met_54 rfl (lv_at hl 5 rfl) ?_
            refine lv_iconst (v := (4 : Int32)) hx hb dX11_met_55 (by decide) ?_
            refine lv_iload hx hb dX11_met_56 (lv_at hl 0 rfl) ?_
            refine lv_bipush (v := (32 : Int32)) hx hb dX11_met_58 (by decide) ?_
            refine lv_idiv hx hb dX11_met_60 (by decide) ?_
            refine lv_imul hx hb dX11_met_61 ?_
            refine lv_iload hx hb dX11_met_62 (lv_at hl 1 rfl) ?_
            refine lv_iadd hx hb dX11_met_64 ?_
            obtain ⟨z49, h⟩ := h
            refine n_iald hx hb hK (hw.arg hL0 hB0) z49 dX11_met_65 ?_
            refine lv_bipush (v := (32 : Int32)) hx hb dX11_met_66 (by decide) ?_
            refine lv_imul hx hb dX11_met_68 ?_
            refine lv_aload_n hx hb dX11_met_69 rfl (lv_at hl 6 rfl) ?_
            refine lv_iconst (v := (4 : Int32)) hx hb dX11_met_70 (by decide) ?_
            refine lv_iload hx hb dX11_met_71 (lv_at hl 0 rfl) ?_
            refine lv_bipush (v := (32 : Int32)) hx hb dX11_met_73 (by decide) ?_
            refine lv_irem hx hb dX11_met_75 (by decide) ?_
            refine lv_imul hx hb dX11_met_76 ?_
            refine lv_iload hx hb dX11_met_77 (lv_at hl 1 rfl) ?_
            refine lv_iadd hx hb dX11_met_79 ?_
            obtain ⟨z50, h⟩ := h
            refine n_iald hx hb hK (hw.arg hL1 hB1) z50 dX11_met_80 ?_
            refine lv_iadd hx hb dX11_met_81 ?_
            exact h H locs ls hw (lv_sub hl [1, 2, 3, 4, 5, 6, 7, 8] rfl)
          have h := h.2 c48
          refine lv_iload hx hb dX11_met_49 (lv_at hl 0 rfl) ?_
          refine lv_goto (tgt := 82) hx hb dX11_met_51 (by decide) ?_
          exact h H locs ls hw (lv_sub hl [1, 2, 3, 4, 5, 6, 7, 8] rfl)
      refine L10 v4 v6 v7 _ ?_ n51 (-1 : Int32) v5 f9 H locs ls hw (lv_sub hl [0, 1, 2, 3, 4, 5, 6, 7] rfl) h
      intro u52 f53 H locs ls hw hl h
      refine lv_iinc (v := (v4 + (1 : Int32))) (lv' := [(6, .int (v4 + (1 : Int32))), (5, .int u52), (4, .ref q2), (0, .ref qa1), (1, .ref qa2), (2, .int v6), (3, .int v7)]) hx hb dX11_met_199 hl (k := 0) rfl rfl (by decide) rfl (fun ls hl => ?_)
      refine lv_goto (tgt := 17) hx hb dX11_met_202 (by decide) ?_
      exact ih2 (v4 + (1 : Int32)) u52 f53 H locs ls hw (lv_sub hl [0, 1, 2, 3, 4, 5, 6] rfl) h
  exact L2 ((((3 : Int32) * (a3 + (1 : Int32))) + (1 : Int32)).toNatClampNeg) a3 a4 n54 (0 : Int32) (1 : Int32) (fun _ => 0) H locs ls hw (lv_sub hl [0, 1, 2, 3, 4, 5, 6] rfl) h
end
/-! part 66.r5 -/
section
def wp_X11_pairsOf (μ : TMem) (a1 : Int32) (a2 : Int32) (Q : Option AI → Prop) : Prop :=
  wp_X11_oneWay_ μ a1 (fun (r23 : Option AI) => (r23 = none → (wp_X11_oneWay_ μ a2 (fun (r11 : Option AI) => (r11 = none → (Q none)) ∧ (∀ (n9 : Nat) (f10 : Nat → Int32), r11 = some (n9, f10) → (Q none))))) ∧ (∀ (n4 : Nat) (f5 : Nat → Int32), r23 = some (n4, f5) → (wp_X11_oneWay_ μ a2 (fun (r22 : Option AI) => (r22 = none → (Q none)) ∧ (∀ (n15 : Nat) (f16 : Nat → Int32), r22 = some (n15, f16) → (wp_X11_met n4 f5 n15 f16 (200 : Int32) (1 : Int32) (fun (n18 : Nat) (f19 : Nat → Int32) => vp_in (0 : Int32) n18 ∧ (((f19 (0 : Int32).toNatClampNeg) ≤ (200 : Int32) → (Q (some (n18, f19)))) ∧ (¬ (f19 (0 : Int32).toNatClampNeg) ≤ (200 : Int32) → (Q none))))))))))
set_option maxHeartbeats 4000000 in
set_option maxRecDepth 100000 in
theorem c_X11_pairsOf {l : Launch} {D : va_G} {ad : Nat → Nat} {cI cL : ClassId}  (μ : TMem) (sz : Nat) (a1 : Int32) (a2 : Int32)  {Q : Option AI → Prop} (h : wp_X11_pairsOf μ a1 a2 Q) : MMA l yX11_pairsOf (.code yX11_pairsOf cX11_pairsOf 6 (Option.some (Jvm.ClassFile.FieldType.array Jvm.ClassFile.FieldType.int))) 3 9 1222 [.ref (ad 0), .int a1, .int a2] D ad cI cL sz μ [] (fun o μ1 => μ1 = μ ∧ Q o) := by
  refine M_metA (by decide +kernel) (Nat.le_of_ble_eq_true rfl) ?_
  intro p e s m below meth c Z ls hx hb hml hown ht hK hP0 hI hne hw hret hretN hl
  have hl : lv_has ls 6 [(0, .ref (ad 0)), (1, .int a1), (2, .int a2)] := hl
  suffices hh : ∀ (H : Heap) (locs : List Loc), MW D (MR ad cI μ) [] (MA ad s.heap.size) s H locs → W p l e (RA 3 9 1222) s m #[.ref (ad 0), .int a1, .int a2] below meth c H locs 0 0 Z (F0 m 0 ls []) from hh _ _ hw
  intro H locs hw
  change wp_X11_oneWay_ μ a1 (fun (r23 : Option AI) => (r23 = none → (wp_X11_oneWay_ μ a2 (fun (r11 : Option AI) => (r11 = none → (Q none)) ∧ (∀ (n9 : Nat) (f10 : Nat → Int32), r11 = some (n9, f10) → (Q none))))) ∧ (∀ (n4 : Nat) (f5 : Nat → Int32), r23 = some (n4, f5) → (wp_X11_oneWay_ μ a2 (fun (r22 : Option AI) => (r22 = none → (Q none)) ∧ (∀ (n15 : Nat) (f16 : Nat → Int32), r22 = some (n15, f16) → (wp_X11_met n4 f5 n15 f16 (200 : Int32) (1 : Int32) (fun (n18 : Nat) (f19 : Nat → Int32) => vp_in (0 : Int32) n18 ∧ (((f19 (0 : Int32).toNatClampNeg) ≤ (200 : Int32) → (Q (some (n18, f19)))) ∧ (¬ (f19 (0 : Int32).toNatClampNeg) ≤ (200 : Int32) → (Q none)))))))))) at h
  refine lv_aload_n hx hb dX11_pairsOf_0 rfl (lv_at hl 0 rfl) ?_
  refine lv_iload_n hx hb dX11_pairsOf_1 rfl (lv_at hl 1 rfl) ?_
  refine M_callA hw (MA.up hw.2.2.1.1) (va_runV (own := "LeastreaderModel") (As := [.int a1]) (rest := []) ⟨hx, hb, hml, hown, ht⟩ (c_X11_oneWay_ μ H.size a1 h) (cwV 1 ht (G_V q_1452 q_1454 q_37 q_56 q_1455) rfl rfl rfl ⟨rfl, hd_86⟩ ⟨Nat.le_of_ble_eq_true rfl, Nat.le_of_ble_eq_true rfl⟩) ⟨MB.blind, M_recv hK hw, MB.pre hK hI hw va_P0 ne0⟩ rfl rfl hl.1 rfl (lv_room (Nat.le_of_ble_eq_true rfl)) dX11_pairsOf_2 ⟨show 0 + 4 ≤ 9 by omega, show 0 + 309 ≤ 1222 by omega⟩) (fun μ1 H locs h hw => ?_) (fun q3 n4 f5 μ1 H locs hq3 h hw => ?_)
  · skip
    obtain ⟨e2, h⟩ := h
    rw [e2] at hw
    have h := h.1 rfl
    refine lv_astore_nN (lv' := [(3, .null), (0, .ref (ad 0)), (1, .int a1), (2, .int a2)]) hx hb dX11_pairsOf_5 rfl hl (by decide) rfl (fun ls hl => ?_)
    refine lv_aload_n hx hb dX11_pairsOf_6 rfl (lv_at hl 1 rfl) ?_
    refine lv_iload_n hx hb dX11_pairsOf_7 rfl (lv_at hl 3 rfl) ?_
    refine M_callA hw (MA.up hw.2.2.1.1) (va_runV (own := "LeastreaderModel") (As := [.int a2]) (rest := []) ⟨hx, hb, hml, hown, ht⟩ (c_X11_oneWay_ μ H.size a2 h) (cwV 1 ht (G_V q_1452 q_1454 q_37 q_56 q_1455) rfl rfl rfl ⟨rfl, hd_86⟩ ⟨Nat.le_of_ble_eq_true rfl, Nat.le_of_ble_eq_true rfl⟩) ⟨MB.blind, M_recv hK hw, MB.pre hK hI hw va_P0 ne0⟩ rfl rfl hl.1 rfl (lv_room (Nat.le_of_ble_eq_true rfl)) dX11_pairsOf_8 ⟨show 4 + 4 ≤ 9 by omega, show 309 + 309 ≤ 1222 by omega⟩) (fun μ6 H locs h hw => ?_) (fun q8 n9 f10 μ6 H locs hq8 h hw => ?_)
    · skip
      obtain ⟨e7, h⟩ := h
      rw [e7] at hw
      have h := h.1 rfl
      refine lv_astoreN (lv' := [(4, .null), (3, .null), (0, .ref (ad 0)), (1, .int a1), (2, .int a2)]) hx hb dX11_pairsOf_11 hl (by decide) rfl (fun ls hl => ?_)
      refine lv_aload_nN hx hb dX11_pairsOf_13 rfl (lv_at hl 1 rfl) ?_
      refine lv_ifnullN (tgt := 22) hx hb dX11_pairsOf_14 (by decide) ?_
      refine lv_null hx hb dX11_pairsOf_22 ?_
      exact hretN H locs ls 23 _ _ _ _ hw ⟨rfl, h⟩ (show 8 ≤ 9 by omega) (show 618 ≤ 1222 by omega) dX11_pairsOf_23
    obtain ⟨e7, h⟩ := h
    rw [e7] at hw
    have h := h.2 _ _ rfl
    have hw : MW D (MR ad cI μ) [eI cI q8 n9 f10] (MA ad s.heap.size) s H locs := hw
    refine lv_astore (lv' := [(4, .ref q8), (3, .null), (0, .ref (ad 0)), (1, .int a1), (2, .int a2)]) hx hb dX11_pairsOf_11 hl (by decide) rfl (fun ls hl => ?_)
    refine lv_aload_nN hx hb dX11_pairsOf_13 rfl (lv_at hl 1 rfl) ?_
    refine lv_ifnullN (tgt := 22) hx hb dX11_pairsOf_14 (by decide) ?_
    refine lv_null hx hb dX11_pairsOf_22 ?_
    exact hretN H locs ls 23 _ _ _ _ hw ⟨rfl, h⟩ (show 8 ≤ 9 by omega) (show 618 ≤ 1222 by omega) dX11_pairsOf_23
  obtain ⟨e2, h⟩ := h
  rw [e2] at hw
  have h := h.2 _ _ rfl
  have hw : MW D (MR ad cI μ) [eI cI q3 n4 f5] (MA ad s.heap.size) s H locs := hw
  refine lv_astore_n (lv' := [(3, .ref q3), (0, .ref (ad 0)), (1, .int a1), (2, .int a2)]) hx hb dX11_pairsOf_5 rfl hl (by decide) rfl (fun ls hl => ?_)
  refine lv_aload_n hx hb dX11_pairsOf_6 rfl (lv_at hl 1 rfl) ?_
  refine lv_iload_n hx hb dX11_pairsOf_7 rfl (lv_at hl 3 rfl) ?_
  refine M_callA hw (MA.up hw.2.2.1.1) (va_runV (own := "LeastreaderModel") (As := [.int a2]) (rest := []) ⟨hx, hb, hml, hown, ht⟩ (c_X11_oneWay_ μ H.size a2 h) (cwV 1 ht (G_V q_1452 q_1454 q_37 q_56 q_1455) rfl rfl rfl ⟨rfl, hd_86⟩ ⟨Nat.le_of_ble_eq_true rfl, Nat.le_of_ble_eq_true rfl⟩) ⟨MB.blind, M_recv hK hw, MB.pre hK hI hw va_P0 ne0⟩ rfl rfl hl.1 rfl (lv_room (Nat.le_of_ble_eq_true rfl)) dX11_pairsOf_8 ⟨show 4 + 4 ≤ 9 by omega, show 309 + 309 ≤ 1222 by omega⟩) (fun μ12 H locs h hw => ?_) (fun q14 n15 f16 μ12 H locs hq14 h hw => ?_)
  · skip
    obtain ⟨e13, h⟩ := h
    rw [e13] at hw
    have h := h.1 rfl
    refine lv_astoreN (lv' := [(4, .null), (3, .ref q3), (0, .ref (ad 0)), (1, .int a1), (2, .int a2)]) hx hb dX11_pairsOf_11 hl (by decide) rfl (fun ls hl => ?_)
    refine lv_aload_n hx hb dX11_pairsOf_13 rfl (lv_at hl 1 rfl) ?_
    refine lv_ifnull hx hb dX11_pairsOf_14 ?_
    refine lv_aloadN hx hb dX11_pairsOf_17 (lv_at hl 0 rfl) ?_
    refine lv_ifnonnullN hx hb dX11_pairsOf_19 ?_
    refine lv_null hx hb dX11_pairsOf_22 ?_
    exact hretN H locs ls 23 _ _ _ _ hw ⟨rfl, h⟩ (show 8 ≤ 9 by omega) (show 618 ≤ 1222 by omega) dX11_pairsOf_23
  obtain ⟨e13, h⟩ := h
  rw [e13] at hw
  have h := h.2 _ _ rfl
  have hw : MW D (MR ad cI μ) [eI cI q3 n4 f5, eI cI q14 n15 f16] (MA ad s.heap.size) s H locs := hw
  refine lv_astore (lv' := [(4, .ref q14), (3, .ref q3), (0, .ref (ad 0)), (1, .int a1), (2, .int a2)]) hx hb dX11_pairsOf_11 hl (by decide) rfl (fun ls hl => ?_)
  refine lv_aload_n hx hb dX11_pairsOf_13 rfl (lv_at hl 1 rfl) ?_
  refine lv_ifnull hx hb dX11_pairsOf_14 ?_
  refine lv_aload hx hb dX11_pairsOf_17 (lv_at hl 0 rfl) ?_
  refine lv_ifnonnull (tgt := 24) hx hb dX11_pairsOf_19 (by decide) ?_
  refine lv_aload_n hx hb dX11_pairsOf_24 rfl (lv_at hl 1 rfl) ?_
  refine lv_aload hx hb dX11_pairsOf_25 (lv_at hl 0 rfl) ?_
  refine lv_sipush (v := (200 : Int32)) hx hb dX11_pairsOf_27 (by decide) ?_
  refine lv_iconst (v := (1 : Int32)) hx hb dX11_pairsOf_30 (by decide) ?_
  refine S_callA hw (va_runS (own := "LeastreaderModel") (As := [.ref q3, .ref q14, .int (200 : Int32), .int (1 : Int32)]) (rest := []) ⟨hx, hb, hml, hown, ht⟩ (c_X11_met q3 q14 H.size n4 f5 n15 f16 (200 : Int32) (1 : Int32) h) (va_cwS 4 ht (G_S q_1487 q_1488 q_56 q_1489) rfl rfl rfl hd_90 ⟨Nat.le_of_ble_eq_true rfl, Nat.le_of_ble_eq_true rfl⟩) ⟨SB.blind, SB.pre hK (va_Pc2 (hw.n (j := 0) rfl) (va_Pc2 (hw.n (j := 1) rfl) va_P0))⟩ rfl rfl hl.1 rfl (lv_room (Nat.le_of_ble_eq_true rfl)) dX11_pairsOf_31 ⟨show 8 + 1 ≤ 9 by omega, show 618 + 604 ≤ 1222 by omega⟩) (fun _ _ h _ => by obtain ⟨_, _, h, _⟩ := h; cases h) (fun q17 n18 f19 H locs hq17 h hw => ?_)
  obtain ⟨_, _, e9, h⟩ := h
  cases e9
  have hw : MW D (MR ad cI μ) [eI cI q3 n4 f5, eI cI q14 n15 f16, eI cI q17 n18 f19] (MA ad s.heap.size) s H locs := hw
  refine lv_astore (lv' := [(5, .ref q17), (4, .ref q14), (3, .ref q3), (0, .ref (ad 0)), (1, .int a1), (2, .int a2)]) hx hb dX11_pairsOf_34 hl (by decide) rfl (fun ls hl => ?_)
  refine lv_aload hx hb dX11_pairsOf_36 (lv_at hl 0 rfl) ?_
  refine lv_iconst (v := (0 : Int32)) hx hb dX11_pairsOf_38 (by decide) ?_
  obtain ⟨z20, h⟩ := h
  refine n_iald hx hb hK (hw.n (j := 2) rfl) z20 dX11_pairsOf_39 ?_
  refine lv_sipush (v := (200 : Int32)) hx hb dX11_pairsOf_40 (by decide) ?_
  refine lv_icmp_le (tgt := 50) hx hb dX11_pairsOf_43 (by decide) (fun c21 => ?_) (fun c21 => ?_)
  · have h := h.1 c21
    refine lv_aload hx hb dX11_pairsOf_50 (lv_at hl 0 rfl) ?_
    exact hret H locs ls 52 _ _ _ 2 _ _ _ _ hw rfl hq17 ⟨rfl, h⟩ (show 9 ≤ 9 by omega) (show 1222 ≤ 1222 by omega) dX11_pairsOf_52
  have h := h.2 c21
  refine lv_null hx hb dX11_pairsOf_46 ?_
  refine lv_goto (tgt := 52) hx hb dX11_pairsOf_47 (by decide) ?_
  exact hretN H locs ls 52 _ _ _ _ hw ⟨rfl, h⟩ (show 9 ≤ 9 by omega) (show 1222 ≤ 1222 by omega) dX11_pairsOf_52
def wp_X11_isApart (μ : TMem) (a1 : Int32) (a2 : Int32) (na3 : Nat) (fa3 : Nat → Int32) (Q : Int32 → Prop) : Prop :=
  wp_X11_oneWay_ μ a1 (fun (r28 : Option AI) => (r28 = none → (wp_X11_oneWay_ μ a2 (fun (r15 : Option AI) => (r15 = none → (vp_in (0 : Int32) na3 ∧ (vp_in (((3 : Int32) * (fa3 (0 : Int32).toNatClampNeg)) - (2 : Int32)) na3 ∧ (False)))) ∧ (∀ (n9 : Nat) (f10 : Nat → Int32), r15 = some (n9, f10) → (vp_in (0 : Int32) na3 ∧ (vp_in (((3 : Int32) * (fa3 (0 : Int32).toNatClampNeg)) - (2 : Int32)) na3 ∧ (False))))))) ∧ (∀ (n4 : Nat) (f5 : Nat → Int32), r28 = some (n4, f5) → (wp_X11_oneWay_ μ a2 (fun (r27 : Option AI) => (r27 = none → (vp_in (0 : Int32) na3 ∧ (vp_in (((3 : Int32) * (fa3 (0 : Int32).toNatClampNeg)) - (2 : Int32)) na3 ∧ (False)))) ∧ (∀ (n19 : Nat) (f20 : Nat → Int32), r27 = some (n19, f20) → (vp_in (0 : Int32) na3 ∧ (vp_in (((3 : Int32) * (fa3 (0 : Int32).toNatClampNeg)) - (2 : Int32)) na3 ∧ (wp_X11_isUnlike n4 f5 n19 f20 (fa3 (((3 : Int32) * (fa3 (0 : Int32).toNatClampNeg)) - (2 : Int32)).toNatClampNeg) (fun (r25 : Int32) => isB r25 ∧ (Q r25))))))))))
set_option maxHeartbeats 4000000 in
set_option maxRecDepth 100000 in
theorem c_X11_isApart {l : Launch} {D : va_G} {ad : Nat → Nat} {cI cL : ClassId} (qa3 : Nat) (μ : TMem) (sz : Nat) (a1 : Int32) (a2 : Int32) (na3 : Nat) (fa3 : Nat → Int32)  {Q : Int32 → Prop} (h : wp_X11_isApart μ a1 a2 na3 fa3 Q) : MMi l yX11_isApart (.code yX11_isApart cX11_isApart 4 (Option.some Jvm.ClassFile.FieldType.boolean)) 3 8 618 [.ref (ad 0), .int a1, .int a2, .ref qa3] D ad cI cL sz μ [eI cI qa3 na3 fa3] (fun r μ1 => μ1 = μ ∧ Q r) := by
  refine M_meti (by decide +kernel) (Nat.le_of_ble_eq_true rfl) ?_
  intro p e s m below meth c Z ls hx hb hml hown ht hK hP0 hI hne hw hret hl
  have hl : lv_has ls 4 [(0, .ref (ad 0)), (1, .int a1), (2, .int a2), (3, .ref qa3)] := hl
  have hL0 := va_Ph hP0
  have hB0 : ¬ MA ad s.heap.size qa3 := fun z => z.elim (fun ⟨k, hk, e⟩ => hne 0 _ rfl k hk e) (fun z => absurd hL0.lt (Nat.not_lt.mpr z))
  suffices hh : ∀ (H : Heap) (locs : List Loc), MW D (MR ad cI μ) [] (MA ad s.heap.size) s H locs → W p l e (RA 3 8 618) s m #[.ref (ad 0), .int a1, .int a2, .ref qa3] below meth c H locs 0 0 Z (F0 m 0 ls []) from hh _ _ hw
  intro H locs hw
  change wp_X11_oneWay_ μ a1 (fun (r28 : Option AI) => (r28 = none → (wp_X11_oneWay_ μ a2 (fun (r15 : Option AI) => (r15 = none → (vp_in (0 : Int32) na3 ∧ (vp_in (((3 : Int32) * (fa3 (0 : Int32).toNatClampNeg)) - (2 : Int32)) na3 ∧ (False)))) ∧ (∀ (n9 : Nat) (f10 : Nat → Int32), r15 = some (n9, f10) → (vp_in (0 : Int32) na3 ∧ (vp_in (((3 : Int32) * (fa3 (0 : Int32).toNatClampNeg)) - (2 : Int32)) na3 ∧ (False))))))) ∧ (∀ (n4 : Nat) (f5 : Nat → Int32), r28 = some (n4, f5) → (wp_X11_oneWay_ μ a2 (fun (r27 : Option AI) => (r27 = none → (vp_in (0 : Int32) na3 ∧ (vp_in (((3 : Int32) * (fa3 (0 : Int32).toNatClampNeg)) - (2 : Int32)) na3 ∧ (False)))) ∧ (∀ (n19 : Nat) (f20 : Nat → Int32), r27 = some (n19, f20) → (vp_in (0 : Int32) na3 ∧ (vp_in (((3 : Int32) * (fa3 (0 : Int32).toNatClampNeg)) - (2 : Int32)) na3 ∧ (wp_X11_isUnlike n4 f5 n19 f20 (fa3 (((3 : Int32) * (fa3 (0 : Int32).toNatClampNeg)) - (2 : Int32)).toNatClampNeg) (fun (r25 : Int32) => isB r25 ∧ (Q r25)))))))))) at h
  refine lv_aload_n hx hb dX11_isApart_0 rfl (lv_at hl 0 rfl) ?_
  refine lv_iload_n hx hb dX11_isApart_1 rfl (lv_at hl 1 rfl) ?_
  refine M_callA hw (MA.up hw.2.2.1.1) (va_runV (own := "LeastreaderModel") (As := [.int a1]) (rest := []) ⟨hx, hb, hml, hown, ht⟩ (c_X11_oneWay_ μ H.size a1 h) (cwV 1 ht (G_V q_1452 q_1454 q_37 q_56 q_1455) rfl rfl rfl ⟨rfl, hd_86⟩ ⟨Nat.le_of_ble_eq_true rfl, Nat.le_of_ble_eq_true rfl⟩) ⟨MB.blind, M_recv hK hw, MB.pre hK hI hw va_P0 ne0⟩ rfl rfl hl.1 rfl (lv_room (Nat.le_of_ble_eq_true rfl)) dX11_isApart_2 ⟨show 0 + 4 ≤ 8 by omega, show 0 + 309 ≤ 618 by omega⟩) (fun μ1 H locs h hw => ?_) (fun q3 n4 f5 μ1 H locs hq3 h hw => ?_)
  · skip
    obtain ⟨e2, h⟩ := h
    rw [e2] at hw
    have h := h.1 rfl
    refine lv_aload_n hx hb dX11_isApart_5 rfl (lv_at hl 0 rfl) ?_
    refine lv_iload_n hx hb dX11_isApart_6 rfl (lv_at hl 2 rfl) ?_
    refine M_callA hw (MA.up hw.2.2.1.1) (va_runV (own := "LeastreaderModel") (As := [.int a2]) (rest := [.null]) ⟨hx, hb, hml, hown, ht⟩ (c_X11_oneWay_ μ H.size a2 h) (cwV 1 ht (G_V q_1452 q_1454 q_37 q_56 q_1455) rfl rfl rfl ⟨rfl, hd_86⟩ ⟨Nat.le_of_ble_eq_true rfl, Nat.le_of_ble_eq_true rfl⟩) ⟨MB.blind, M_recv hK hw, MB.pre hK hI hw va_P0 ne0⟩ rfl rfl hl.1 rfl (lv_room (Nat.le_of_ble_eq_true rfl)) dX11_isApart_7 ⟨show 4 + 4 ≤ 8 by omega, show 309 + 309 ≤ 618 by omega⟩) (fun μ6 H locs h hw => ?_) (fun q8 n9 f10 μ6 H locs hq8 h hw => ?_)
    · skip
      obtain ⟨e7, h⟩ := h
      rw [e7] at hw
      have h := h.1 rfl
      refine lv_aload_n hx hb dX11_isApart_10 rfl (lv_at hl 3 rfl) ?_
      refine lv_iconst (v := (3 : Int32)) hx hb dX11_isApart_11 (by decide) ?_
      refine lv_aload_n hx hb dX11_isApart_12 rfl (lv_at hl 3 rfl) ?_
      refine lv_iconst (v := (0 : Int32)) hx hb dX11_isApart_13 (by decide) ?_
      obtain ⟨z11, h⟩ := h
      refine n_iald hx hb hK (hw.arg hL0 hB0) z11 dX11_isApart_14 ?_
      refine lv_imul hx hb dX11_isApart_15 ?_
      refine lv_iconst (v := (2 : Int32)) hx hb dX11_isApart_16 (by decide) ?_
      refine lv_isub hx hb dX11_isApart_17 ?_
      obtain ⟨z12, h⟩ := h
      refine n_iald hx hb hK (hw.arg hL0 hB0) z12 dX11_isApart_18 ?_
      exact False.elim h
    obtain ⟨e7, h⟩ := h
    rw [e7] at hw
    have h := h.2 _ _ rfl
    have hw : MW D (MR ad cI μ) [eI cI q8 n9 f10] (MA ad s.heap.size) s H locs := hw
    refine lv_aload_n hx hb dX11_isApart_10 rfl (lv_at hl 3 rfl) ?_
    refine lv_iconst (v := (3 : Int32)) hx hb dX11_isApart_11 (by decide) ?_
    refine lv_aload_n hx hb dX11_isApart_12 rfl (lv_at hl 3 rfl) ?_
    refine lv_iconst (v := (0 : Int32)) hx hb dX11_isApart_13 (by decide) ?_
    obtain ⟨z13, h⟩ := h
    refine n_iald hx hb hK (hw.arg hL0 hB0) z13 dX11_isApart_14 ?_
    refine lv_imul hx hb dX11_isApart_15 ?_
    refine lv_iconst (v := (2 : Int32)) hx hb dX11_isApart_16 (by decide) ?_
    refine lv_isub hx hb dX11_isApart_17 ?_
    obtain ⟨z14, h⟩ := h
    refine n_iald hx hb hK (hw.arg hL0 hB0) z14 dX11_isApart_18 ?_
    exact False.elim h
  obtain ⟨e2, h⟩ := h
  rw [e2] at hw
  have h := h.2 _ _ rfl
  have hw : MW D (MR ad cI μ) [eI cI q3 n4 f5] (MA ad s.heap.size) s H locs := hw
  refine lv_aload_n hx hb dX11_isApart_5 rfl (lv_at hl 0 rfl) ?_
  refine lv_iload_n hx hb dX11_isApart_6 rfl (lv_at hl 2 rfl) ?_
  refine M_callA hw (MA.up hw.2.2.1.1) (va_runV (own := "LeastreaderModel") (As := [.int a2]) (rest := [.ref q3]) ⟨hx, hb, hml, hown, ht⟩ (c_X11_oneWay_ μ H.size a2 h) (cwV 1 ht (G_V q_1452 q_1454 q_37 q_56 q_1455) rfl rfl rfl ⟨rfl, hd_86⟩ ⟨Nat.le_of_ble_eq_true rfl, Nat.le_of_ble_eq_true rfl⟩) ⟨MB.blind, M_recv hK hw, MB.pre hK hI hw va_P0 ne0⟩ rfl rfl hl.1 rfl (lv_room (Nat.le_of_ble_eq_true rfl)) dX11_isApart_7 ⟨show 4 + 4 ≤ 8 by omega, show 309 + 309 ≤ 618 by omega⟩) (fun μ16 H locs h hw => ?_) (fun q18 n19 f20 μ16 H locs hq18 h hw => ?_)
  · skip
    obtain ⟨e17, h⟩ := h
    rw [e17] at hw
    have h := h.1 rfl
    refine lv_aload_n hx hb dX11_isApart_10 rfl (lv_at hl 3 rfl) ?_
    refine lv_iconst (v := (3 : Int32)) hx hb dX11_isApart_11 (by decide) ?_
    refine lv_aload_n hx hb dX11_isApart_12 rfl (lv_at hl 3 rfl) ?_
    refine lv_iconst (v := (0 : Int32)) hx hb dX11_isApart_13 (by decide) ?_
    obtain ⟨z21, h⟩ := h
    refine n_iald hx hb hK (hw.arg hL0 hB0) z21 dX11_isApart_14 ?_
    refine lv_imul hx hb dX11_isApart_15 ?_
    refine lv_iconst (v := (2 : Int32)) hx hb dX11_isApart_16 (by decide) ?_
    refine lv_isub hx hb dX11_isApart_17 ?_
    obtain ⟨z22, h⟩ := h
    refine n_iald hx hb hK (hw.arg hL0 hB0) z22 dX11_isApart_18 ?_
    exact False.elim h
  obtain ⟨e17, h⟩ := h
  rw [e17] at hw
  have h := h.2 _ _ rfl
  have hw : MW D (MR ad cI μ) [eI cI q3 n4 f5, eI cI q18 n19 f20] (MA ad s.heap.size) s H locs := hw
  refine lv_aload_n hx hb dX11_isApart_10 rfl (lv_at hl 3 rfl) ?_
  refine lv_iconst (v := (3 : Int32)) hx hb dX11_isApart_11 (by decide) ?_
  refine lv_aload_n hx hb dX11_isApart_12 rfl (lv_at hl 3 rfl) ?_
  refine lv_iconst (v := (0 : Int32)) hx hb dX11_isApart_13 (by decide) ?_
  obtain ⟨z23, h⟩ := h
  refine n_iald hx hb hK (hw.arg hL0 hB0) z23 dX11_isApart_14 ?_
  refine lv_imul hx hb dX11_isApart_15 ?_
  refine lv_iconst (v := (2 : Int32)) hx hb dX11_isApart_16 (by decide) ?_
  refine lv_isub hx hb dX11_isApart_17 ?_
  obtain ⟨z24, h⟩ := h
  refine n_iald hx hb hK (hw.arg hL0 hB0) z24 dX11_isApart_18 ?_
  refine S_calli hw (va_runS (own := "LeastreaderModel") (As := [.ref q3, .ref q18, .int (fa3 (((3 : Int32) * (fa3 (0 : Int32).toNatClampNeg)) - (2 : Int32)).toNatClampNeg)]) (rest := []) ⟨hx, hb, hml, hown, ht⟩ (c_X11_isUnlike q3 q18 H.size n4 f5 n19 f20 (fa3 (((3 : Int32) * (fa3 (0 : Int32).toNatClampNeg)) - (2 : Int32)).toNatClampNeg) h) (va_cwS 3 ht (G_S q_1490 q_1491 q_56 q_1492) rfl rfl rfl hd_89 ⟨Nat.le_of_ble_eq_true rfl, Nat.le_of_ble_eq_true rfl⟩) ⟨SB.blind, SB.pre hK (va_Pc2 (hw.n (j := 0) rfl) (va_Pc2 (hw.n (j := 1) rfl) va_P0))⟩ rfl rfl hl.1 rfl (lv_room (Nat.le_of_ble_eq_true rfl)) dX11_isApart_19 ⟨show 8 + 0 ≤ 8 by omega, show 618 + 0 ≤ 618 by omega⟩) (fun r25 H locs h hw => ?_)
  obtain ⟨z26, h⟩ := h
  exact hret H locs ls 22 _ _ _ _ _ hw ⟨rfl, h⟩ (isB_n z26) (show 8 ≤ 8 by omega) (show 618 ≤ 618 by omega) dX11_isApart_22
def wpl_X11_both_221 (μ : TMem) (f16 : Nat → Int32) (n15 : Nat) (f19 : Nat → Int32) (n18 : Nat) (n28 : Nat) (f5 : Nat → Int32) (n4 : Nat) (v50 : Int32) (v51 : Int32) (v52 : Int32) (v53 : Int32) (v54 : Int32) (v55 : Int32) (K260 : (Nat → Int32) → Prop) : Nat → (Nat → Int32) → Prop
  | 0, _ => False
  | n + 1, f56 =>
    vp_in (((4 : Int32) * v54) + v51) n28 ∧ (vp_in (((3 : Int32) * (f56 (((4 : Int32) * v54) + v51).toNatClampNeg)) + (1 : Int32)) n18 ∧ (((f19 (((3 : Int32) * (f56 (((4 : Int32) * v54) + v51).toNatClampNeg)) + (1 : Int32)).toNatClampNeg) = v50 → (K260 f56)) ∧ (¬ (f19 (((3 : Int32) * (f56 (((4 : Int32) * v54) + v51).toNatClampNeg)) + (1 : Int32)).toNatClampNeg) = v50 → (vp_in (((4 : Int32) * v54) + v51) n28 ∧ (vp_in (((4 : Int32) * v54) + v51) n28 ∧ (wpl_X11_both_221 μ f16 n15 f19 n18 n28 f5 n4 v50 v51 v52 v53 v54 v55 K260 n (upd f56 (((4 : Int32) * v54) + v51).toNatClampNeg ((f56 (((4 : Int32) * v54) + v51).toNatClampNeg) + (1 : Int32)))))))))
def wpl_X11_both_189 (μ : TMem) (f16 : Nat → Int32) (n15 : Nat) (f19 : Nat → Int32) (n18 : Nat) (n28 : Nat) (f5 : Nat → Int32) (n4 : Nat) (v41 : Int32) (v42 : Int32) (v43 : Int32) (v44 : Int32) (K266 : (Nat → Int32) → Prop) : Nat → Int32 → (Nat → Int32) → Prop
  | 0, _, _ => False
  | n + 1, v40, f45 =>
    ((3 : Int32) ≤ v40 → (K266 f45)) ∧ (¬ (3 : Int32) ≤ v40 → (vp_in (((4 : Int32) * v42) + v40) n4 ∧ (vp_in (((4 : Int32) * v41) + v40) n15 ∧ (∃ n48x, wpl_X11_both_221 μ f16 n15 f19 n18 n28 f5 n4 (((f5 (((4 : Int32) * v42) + v40).toNatClampNeg) * (32 : Int32)) + (f16 (((4 : Int32) * v41) + v40).toNatClampNeg)) v40 v41 v42 v43 v44 (fun (f63 : Nat → Int32) => wpl_X11_both_189 μ f16 n15 f19 n18 n28 f5 n4 v41 v42 v43 v44 K266 n (v40 + (1 : Int32)) f63) n48x f45))))
def wpl_X11_both_62 (μ : TMem) (f16 : Nat → Int32) (n15 : Nat) (f19 : Nat → Int32) (n18 : Nat) (n28 : Nat) (f5 : Nat → Int32) (n4 : Nat) (v27 : Int32) (Q : Option AI → Prop) : Nat → Int32 → (Nat → Int32) → Prop
  | 0, _, _ => False
  | n + 1, v26, f29 =>
    vp_in (0 : Int32) n18 ∧ (((f19 (0 : Int32).toNatClampNeg) ≤ v26 → (Q (some (n28, f29)))) ∧ (¬ (f19 (0 : Int32).toNatClampNeg) ≤ v26 → (vp_in (((3 : Int32) * v26) + (1 : Int32)) n18 ∧ (vp_in (((3 : Int32) * v26) + (1 : Int32)) n18 ∧ (vp_in (((4 : Int32) * ((f19 (((3 : Int32) * v26) + (1 : Int32)).toNatClampNeg) / (32 : Int32))) + (3 : Int32)) n4 ∧ (vp_in (((4 : Int32) * ((f19 (((3 : Int32) * v26) + (1 : Int32)).toNatClampNeg) - (f19 (((3 : Int32) * v26) + (1 : Int32)).toNatClampNeg) / (32 : Int32) * (32 : Int32))) + (3 : Int32)) n15 ∧ (∀ J36 : Int32 → Prop, (∀ (j37 : Int32), (vp_in (((4 : Int32) * v26) + (3 : Int32)) n28 ∧ (∃ n38x, wpl_X11_both_189 μ f16 n15 f19 n18 n28 f5 n4 ((f19 (((3 : Int32) * v26) + (1 : Int32)).toNatClampNeg) - (f19 (((3 : Int32) * v26) + (1 : Int32)).toNatClampNeg) / (32 : Int32) * (32 : Int32)) ((f19 (((3 : Int32) * v26) + (1 : Int32)).toNatClampNeg) / (32 : Int32)) v26 v27 (fun (f65 : Nat → Int32) => wpl_X11_both_62 μ f16 n15 f19 n18 n28 f5 n4 v27 Q n (v26 + (1 : Int32)) f65) n38x (0 : Int32) (upd f29 (((4 : Int32) * v26) + (3 : Int32)).toNatClampNeg j37))) → J36 j37) → ((¬ v27 = 0 → ((¬ v27 = (1 : Int32) → ((¬ v27 = (2 : Int32) → ((¬ (f5 (((4 : Int32) * ((f19 (((3 : Int32) * v26) + (1 : Int32)).toNatClampNeg) / (32 : Int32))) + (3 : Int32)).toNatClampNeg) = (f16 (((4 : Int32) * ((f19 (((3 : Int32) * v26) + (1 : Int32)).toNatClampNeg) - (f19 (((3 : Int32) * v26) + (1 : Int32)).toNatClampNeg) / (32 : Int32) * (32 : Int32))) + (3 : Int32)).toNatClampNeg) → (J36 (1 : Int32))) ∧ ((f5 (((4 : Int32) * ((f19 (((3 : Int32) * v26) + (1 : Int32)).toNatClampNeg) / (32 : Int32))) + (3 : Int32)).toNatClampNeg) = (f16 (((4 : Int32) * ((f19 (((3 : Int32) * v26) + (1 : Int32)).toNatClampNeg) - (f19 (((3 : Int32) * v26) + (1 : Int32)).toNatClampNeg) / (32 : Int32) * (32 : Int32))) + (3 : Int32)).toNatClampNeg) → (J36 (0 : Int32))))) ∧ (v27 = (2 : Int32) → (J36 (if ((f5 (((4 : Int32) * ((f19 (((3 : Int32) * v26) + (1 : Int32)).toNatClampNeg) / (32 : Int32))) + (3 : Int32)).toNatClampNeg) - (f16 (((4 : Int32) * ((f19 (((3 : Int32) * v26) + (1 : Int32)).toNatClampNeg) - (f19 (((3 : Int32) * v26) + (1 : Int32)).toNatClampNeg) / (32 : Int32) * (32 : Int32))) + (3 : Int32)).toNatClampNeg)) < (0 : Int32) then (0 : Int32) else ((f5 (((4 : Int32) * ((f19 (((3 : Int32) * v26) + (1 : Int32)).toNatClampNeg) / (32 : Int32))) + (3 : Int32)).toNatClampNeg) - (f16 (((4 : Int32) * ((f19 (((3 : Int32) * v26) + (1 : Int32)).toNatClampNeg) - (f19 (((3 : Int32) * v26) + (1 : Int32)).toNatClampNeg) / (32 : Int32) * (32 : Int32))) + (3 : Int32)).toNatClampNeg))))))) ∧ (v27 = (1 : Int32) → (J36 ((f5 (((4 : Int32) * ((f19 (((3 : Int32) * v26) + (1 : Int32)).toNatClampNeg) / (32 : Int32))) + (3 : Int32)).toNatClampNeg) * (f16 (((4 : Int32) * ((f19 (((3 : Int32) * v26) + (1 : Int32)).toNatClampNeg) - (f19 (((3 : Int32) * v26) + (1 : Int32)).toNatClampNeg) / (32 : Int32) * (32 : Int32))) + (3 : Int32)).toNatClampNeg)))))) ∧ (v27 = 0 → (J36 (if (f5 (((4 : Int32) * ((f19 (((3 : Int32) * v26) + (1 : Int32)).toNatClampNeg) / (32 : Int32))) + (3 : Int32)).toNatClampNeg) < (f16 (((4 : Int32) * ((f19 (((3 : Int32) * v26) + (1 : Int32)).toNatClampNeg) - (f19 (((3 : Int32) * v26) + (1 : Int32)).toNatClampNeg) / (32 : Int32) * (32 : Int32))) + (3 : Int32)).toNatClampNeg) then (f16 (((4 : Int32) * ((f19 (((3 : Int32) * v26) + (1 : Int32)).toNatClampNeg) - (f19 (((3 : Int32) * v26) + (1 : Int32)).toNatClampNeg) / (32 : Int32) * (32 : Int32))) + (3 : Int32)).toNatClampNeg) else (f5 (((4 : Int32) * ((f19 (((3 : Int32) * v26) + (1 : Int32)).toNatClampNeg) / (32 : Int32))) + (3 : Int32)).toNatClampNeg))))))))))))
def wp_X11_both (μ : TMem) (a1 : Int32) (a2 : Int32) (a3 : Int32) (Q : Option AI → Prop) : Prop :=
  wp_X11_oneWay_ μ a1 (fun (r72 : Option AI) => (r72 = none → (wp_X11_oneWay_ μ a2 (fun (r11 : Option AI) => (r11 = none → (Q none)) ∧ (∀ (n9 : Nat) (f10 : Nat → Int32), r11 = some (n9, f10) → (Q none))))) ∧ (∀ (n4 : Nat) (f5 : Nat → Int32), r72 = some (n4, f5) → (wp_X11_oneWay_ μ a2 (fun (r71 : Option AI) => (r71 = none → (Q none)) ∧ (∀ (n15 : Nat) (f16 : Nat → Int32), r71 = some (n15, f16) → (wp_X11_met n4 f5 n15 f16 (32 : Int32) (0 : Int32) (fun (n18 : Nat) (f19 : Nat → Int32) => vp_in (0 : Int32) n18 ∧ (((f19 (0 : Int32).toNatClampNeg) ≤ (32 : Int32) → (vp_in (0 : Int32) n18 ∧ ((¬ ((4 : Int32) * (f19 (0 : Int32).toNatClampNeg)) < 0 ∧ ((4 : Int32) * (f19 (0 : Int32).toNatClampNeg)).toNatClampNeg ≤ 128) ∧ (∃ n24x, wpl_X11_both_62 μ f16 n15 f19 n18 (((4 : Int32) * (f19 (0 : Int32).toNatClampNeg)).toNatClampNeg) f5 n4 a3 Q n24x (0 : Int32) (fun _ => 0))))) ∧ (¬ (f19 (0 : Int32).toNatClampNeg) ≤ (32 : Int32) → (Q none))))))))))
set_option maxHeartbeats 4000000 in
set_option maxRecDepth 100000 in
theorem c_X11_both {l : Launch} {D : va_G} {ad : Nat → Nat} {cI cL : ClassId}  (μ : TMem) (sz : Nat) (a1 : Int32) (a2 : Int32) (a3 : Int32)  {Q : Option AI → Prop} (h : wp_X11_both μ a1 a2 a3 Q) : MMA l yX11_both (.code yX11_both cX11_both 15 (Option.some (Jvm.ClassFile.FieldType.array Jvm.ClassFile.FieldType.int))) 3 10 1350 [.ref (ad 0), .int a1, .int a2, .int a3] D ad cI cL sz μ [] (fun o μ1 => μ1 = μ ∧ Q o) := by
  refine M_metA (by decide +kernel) (Nat.le_of_ble_eq_true rfl) ?_
  intro p e s m below meth c Z ls hx hb hml hown ht hK hP0 hI hne hw hret hretN hl
  have hl : lv_has ls 15 [(0, .ref (ad 0)), (1, .int a1), (2, .int a2), (3, .int a3)] := hl
  suffices hh : ∀ (H : Heap) (locs : List Loc), MW D (MR ad cI μ) [] (MA ad s.heap.size) s H locs → W p l e (RA 3 10 1350) s m #[.ref (ad 0), .int a1, .int a2, .int a3] below meth c H locs 0 0 Z (F0 m 0 ls []) from hh _ _ hw
  intro H locs hw
  change wp_X11_oneWay_ μ a1 (fun (r72 : Option AI) => (r72 = none → (wp_X11_oneWay_ μ a2 (fun (r11 : Option AI) => (r11 = none → (Q none)) ∧ (∀ (n9 : Nat) (f10 : Nat → Int32), r11 = some (n9, f10) → (Q none))))) ∧ (∀ (n4 : Nat) (f5 : Nat → Int32), r72 = some (n4, f5) → (wp_X11_oneWay_ μ a2 (fun (r71 : Option AI) => (r71 = none → (Q none)) ∧ (∀ (n15 : Nat) (f16 : Nat → Int32), r71 = some (n15, f16) → (wp_X11_met n4 f5 n15 f16 (32 : Int32) (0 : Int32) (fun (n18 : Nat) (f19 : Nat → Int32) => vp_in (0 : Int32) n18 ∧ (((f19 (0 : Int32).toNatClampNeg) ≤ (32 : Int32) → (vp_in (0 : Int32) n18 ∧ ((¬ ((4 : Int32) * (f19 (0 : Int32).toNatClampNeg)) < 0 ∧ ((4 : Int32) * (f19 (0 : Int32).toNatClampNeg)).toNatClampNeg ≤ 128) ∧ (∃ n24x, wpl_X11_both_62 μ f16 n15 f19 n18 (((4 : Int32) * (f19 (0 : Int32).toNatClampNeg)).toNatClampNeg) f5 n4 a3 Q n24x (0 : Int32) (fun _ => 0))))) ∧ (¬ (f19 (0 : Int32).toNatClampNeg) ≤ (32 : Int32) → (Q none)))))))))) at h
  refine lv_aload_n hx hb dX11_both_0 rfl (lv_at hl 0 rfl) ?_
  refine lv_iload_n hx hb dX11_both_1 rfl (lv_at hl 1 rfl) ?_
  refine M_callA hw (MA.up hw.2.2.1.1) (va_runV (own := "LeastreaderModel") (As := [.int a1]) (rest := []) ⟨hx, hb, hml, hown, ht⟩ (c_X11_oneWay_ μ H.size a1 h) (cwV 1 ht (G_V q_1452 q_1454 q_37 q_56 q_1455) rfl rfl rfl ⟨rfl, hd_86⟩ ⟨Nat.le_of_ble_eq_true rfl, Nat.le_of_ble_eq_true rfl⟩) ⟨MB.blind, M_recv hK hw, MB.pre hK hI hw va_P0 ne0⟩ rfl rfl hl.1 rfl (lv_room (Nat.le_of_ble_eq_true rfl)) dX11_both_2 ⟨show 0 + 4 ≤ 10 by omega, show 0 + 309 ≤ 1350 by omega⟩) (fun μ1 H locs h hw => ?_) (fun q3 n4 f5 μ1 H locs hq3 h hw => ?_)
  · skip
    obtain ⟨e2, h⟩ := h
    rw [e2] at hw
    have h := h.1 rfl
    refine lv_astoreN (lv' := [(4, .null), (0, .ref (ad 0)), (1, .int a1), (2, .int a2), (3, .int a3)]) hx hb dX11_both_5 hl (by decide) rfl (fun ls hl => ?_)
    refine lv_aload_n hx hb dX11_both_7 rfl (lv_at hl 1 rfl) ?_
    refine lv_iload_n hx hb dX11_both_8 rfl (lv_at hl 3 rfl) ?_
    refine M_callA hw (MA.up hw.2.2.1.1) (va_runV (own := "LeastreaderModel") (As := [.int a2]) (rest := []) ⟨hx, hb, hml, hown, ht⟩ (c_X11_oneWay_ μ H.size a2 h) (cwV 1 ht (G_V q_1452 q_1454 q_37 q_56 q_1455) rfl rfl rfl ⟨rfl, hd_86⟩ ⟨Nat.le_of_ble_eq_true rfl, Nat.le_of_ble_eq_true rfl⟩) ⟨MB.blind, M_recv hK hw, MB.pre hK hI hw va_P0 ne0⟩ rfl rfl hl.1 rfl (lv_room (Nat.le_of_ble_eq_true rfl)) dX11_both_9 ⟨show 4 + 4 ≤ 10 by omega, show 309 + 309 ≤ 1350 by omega⟩) (fun μ6 H locs h hw => ?_) (fun q8 n9 f10 μ6 H locs hq8 h hw => ?_)
    · skip
      obtain ⟨e7, h⟩ := h
      rw [e7] at hw
      have h := h.1 rfl
      refine lv_astoreN (lv' := [(5, .null), (4, .null), (0, .ref (ad 0)), (1, .int a1), (2, .int a2), (3, .int a3)]) hx hb dX11_both_12 hl (by decide) rfl (fun ls hl => ?_)
      refine lv_aloadN hx hb dX11_both_14 (lv_at hl 1 rfl) ?_
      refine lv_ifnullN (tgt := 24) hx hb dX11_both_16 (by decide) ?_
      refine lv_null hx hb dX11_both_24 ?_
      exact hretN H locs ls 25 _ _ _ _ hw ⟨rfl, h⟩ (show 8 ≤ 10 by omega) (show 618 ≤ 1350 by omega) dX11_both_25
    obtain ⟨e7, h⟩ := h
    rw [e7] at hw
    have h := h.2 _ _ rfl
    have hw : MW D (MR ad cI μ) [eI cI q8 n9 f10] (MA ad s.heap.size) s H locs := hw
    refine lv_astore (lv' := [(5, .ref q8), (4, .null), (0, .ref (ad 0)), (1, .int a1), (2, .int a2), (3, .int a3)]) hx hb dX11_both_12 hl (by decide) rfl (fun ls hl => ?_)
    refine lv_aloadN hx hb dX11_both_14 (lv_at hl 1 rfl) ?_
    refine lv_ifnullN (tgt := 24) hx hb dX11_both_16 (by decide) ?_
    refine lv_null hx hb dX11_both_24 ?_
    exact hretN H locs ls 25 _ _ _ _ hw ⟨rfl, h⟩ (show 8 ≤ 10 by omega) (show 618 ≤ 1350 by omega) dX11_both_25
  obtain ⟨e2, h⟩ := h
  rw [e2] at hw
  have h := h.2 _ _ rfl
  have hw : MW D (MR ad cI μ) [eI cI q3 n4 f5] (MA ad s.heap.size) s H locs := hw
  refine lv_astore (lv' := [(4, .ref q3), (0, .ref (ad 0)), (1, .int a1), (2, .int a2), (3, .int a3)]) hx hb dX11_both_5 hl (by decide) rfl (fun ls hl => ?_)
  refine lv_aload_n hx hb dX11_both_7 rfl (lv_at hl 1 rfl) ?_
  refine lv_iload_n hx hb dX11_both_8 rfl (lv_at hl 3 rfl) ?_
  refine M_callA hw (MA.up hw.2.2.1.1) (va_runV (own := "LeastreaderModel") (As := [.int a2]) (rest := []) ⟨hx, hb, hml, hown, ht⟩ (c_X11_oneWay_ μ H.size a2 h) (cwV 1 ht (G_V q_1452 q_1454 q_37 q_56 q_1455) rfl rfl rfl ⟨rfl, hd_86⟩ ⟨Nat.le_of_ble_eq_true rfl, Nat.le_of_ble_eq_true rfl⟩) ⟨MB.blind, M_recv hK hw, MB.pre hK hI hw va_P0 ne0⟩ rfl rfl hl.1 rfl (lv_room (Nat.le_of_ble_eq_true rfl)) dX11_both_9 ⟨show 4 + 4 ≤ 10 by omega, show 309 + 309 ≤ 1350 by omega⟩) (fun μ12 H locs h hw => ?_) (fun q14 n15 f16 μ12 H locs hq14 h hw => ?_)
  · skip
    obtain ⟨e13, h⟩ := h
    rw [e13] at hw
    have h := h.1 rfl
    refine lv_astoreN (lv' := [(5, .null), (4, .ref q3), (0, .ref (ad 0)), (1, .int a1), (2, .int a2), (3, .int a3)]) hx hb dX11_both_12 hl (by decide) rfl (fun ls hl => ?_)
    refine lv_aload hx hb dX11_both_14 (lv_at hl 1 rfl) ?_
    refine lv_ifnull hx hb dX11_both_16 ?_
    refine lv_aloadN hx hb dX11_both_19 (lv_at hl 0 rfl) ?_
    refine lv_ifnonnullN hx hb dX11_both_21 ?_
    refine lv_null hx hb dX11_both_24 ?_
    exact hretN H locs ls 25 _ _ _ _ hw ⟨rfl, h⟩ (show 8 ≤ 10 by omega) (show 618 ≤ 1350 by omega) dX11_both_25
  obtain ⟨e13, h⟩ := h
  rw [e13] at hw
  have h := h.2 _ _ rfl
  have hw : MW D (MR ad cI μ) [eI cI q3 n4 f5, eI cI q14 n15 f16] (MA ad s.heap.size) s H locs := hw
  refine lv_astore (lv' := [(5, .ref q14), (4, .ref q3), (0, .ref (ad 0)), (1, .int a1), (2, .int a2), (3, .int a3)]) hx hb dX11_both_12 hl (by decide) rfl (fun ls hl => ?_)
  refine lv_aload hx hb dX11_both_14 (lv_at hl 1 rfl) ?_
  refine lv_ifnull hx hb dX11_both_16 ?_
  refine lv_aload hx hb dX11_both_19 (lv_at hl 0 rfl) ?_
  refine lv_ifnonnull (tgt := 26) hx hb dX11_both_21 (by decide) ?_
  refine lv_aload hx hb dX11_both_26 (lv_at hl 1 rfl) ?_
  refine lv_aload hx hb dX11_both_28 (lv_at hl 0 rfl) ?_
  refine lv_bipush (v := (32 : Int32)) hx hb dX11_both_30 (by decide) ?_
  refine lv_iconst (v := (0 : Int32)) hx hb dX11_both_32 (by decide) ?_
  refine S_callA hw (va_runS (own := "LeastreaderModel") (As := [.ref q3, .ref q14, .int (32 : Int32), .int (0 : Int32)]) (rest := []) ⟨hx, hb, hml, hown, ht⟩ (c_X11_met q3 q14 H.size n4 f5 n15 f16 (32 : Int32) (0 : Int32) h) (va_cwS 4 ht (G_S q_1487 q_1488 q_56 q_1489) rfl rfl rfl hd_90 ⟨Nat.le_of_ble_eq_true rfl, Nat.le_of_ble_eq_true rfl⟩) ⟨SB.blind, SB.pre hK (va_Pc2 (hw.n (j := 0) rfl) (va_Pc2 (hw.n (j := 1) rfl) va_P0))⟩ rfl rfl hl.1 rfl (lv_room (Nat.le_of_ble_eq_true rfl)) dX11_both_33 ⟨show 8 + 1 ≤ 10 by omega, show 618 + 604 ≤ 1350 by omega⟩) (fun _ _ h _ => by obtain ⟨_, _, h, _⟩ := h; cases h) (fun q17 n18 f19 H locs hq17 h hw => ?_)
  obtain ⟨_, _, e9, h⟩ := h
  cases e9
  have hw : MW D (MR ad cI μ) [eI cI q3 n4 f5, eI cI q14 n15 f16, eI cI q17 n18 f19] (MA ad s.heap.size) s H locs := hw
  refine lv_astore (lv' := [(6, .ref q17), (5, .ref q14), (4, .ref q3), (0, .ref (ad 0)), (1, .int a1), (2, .int a2), (3, .int a3)]) hx hb dX11_both_36 hl (by decide) rfl (fun ls hl => ?_)
  refine lv_aload hx hb dX11_both_38 (lv_at hl 0 rfl) ?_
  refine lv_iconst (v := (0 : Int32)) hx hb dX11_both_40 (by decide) ?_
  obtain ⟨z20, h⟩ := h
  refine n_iald hx hb hK (hw.n (j := 2) rfl) z20 dX11_both_41 ?_
  refine lv_bipush (v := (32 : Int32)) hx hb dX11_both_42 (by decide) ?_
  refine lv_icmp_le (tgt := 49) hx hb dX11_both_44 (by decide) (fun c21 => ?_) (fun c21 => ?_)
  · have h := h.1 c21
    refine lv_iconst (v := (4 : Int32)) hx hb dX11_both_49 (by decide) ?_
    refine lv_aload hx hb dX11_both_50 (lv_at hl 0 rfl) ?_
    refine lv_iconst (v := (0 : Int32)) hx hb dX11_both_52 (by decide) ?_
    obtain ⟨z22, h⟩ := h
    refine n_iald hx hb hK (hw.n (j := 2) rfl) z22 dX11_both_53 ?_
    refine lv_imul hx hb dX11_both_54 ?_
    obtain ⟨z23, h⟩ := h
    refine n_newI (B := 128) hx hb ht q_128 hK hw z23 (by decide) (show 9 + 1 ≤ 10 by omega) (show 1222 + 128 ≤ 1350 by omega) dX11_both_55 (fun q24 H hq24 hw => ?_)
    have hw : MW D (MR ad cI μ) [eI cI q3 n4 f5, eI cI q14 n15 f16, eI cI q17 n18 f19, eI cI q24 (((4 : Int32) * (f19 (0 : Int32).toNatClampNeg)).toNatClampNeg) (fun _ => 0)] (MA ad s.heap.size) s H locs := hw
    refine lv_astore (lv' := [(7, .ref q24), (6, .ref q17), (5, .ref q14), (4, .ref q3), (0, .ref (ad 0)), (1, .int a1), (2, .int a2), (3, .int a3)]) hx hb dX11_both_57 hl (by decide) rfl (fun ls hl => ?_)
    refine lv_iconst (v := (0 : Int32)) hx hb dX11_both_59 (by decide) ?_
    refine lv_istore (lv' := [(8, .int (0 : Int32)), (7, .ref q24), (6, .ref q17), (5, .ref q14), (4, .ref q3), (0, .ref (ad 0)), (1, .int a1), (2, .int a2), (3, .int a3)]) hx hb dX11_both_60 hl (by decide) rfl (fun ls hl => ?_)
    obtain ⟨n70, h⟩ := h
    have L24 : ∀ (n28 : Nat) (v27 : Int32), ∀ (n : Nat), ∀ (v26 : Int32) (f29 : Nat → Int32), ∀ (H : Heap) (locs : List Loc) (ls : Array Slot), MW D (MR ad cI μ) [eI cI q3 n4 f5, eI cI q14 n15 f16, eI cI q17 n18 f19, eI cI q24 n28 f29] (MA ad s.heap.size) s H locs → lv_has ls 15 [(8, .int v26), (7, .ref q24), (6, .ref q17), (5, .ref q14), (4, .ref q3), (3, .int v27)] → wpl_X11_both_62 μ f16 n15 f19 n18 n28 f5 n4 v27 Q n v26 f29 → W p l e (RA 3 10 1350) s m #[.ref (ad 0), .int a1, .int a2, .int a3] below meth c H locs 10 1350 Z (F0 m 62 ls []) := by
      intro n28 v27
      intro n
      induction n with
      | zero => intro v26 f29 H locs ls hw hl h; exact False.elim h
      | succ n ih24 =>
        intro v26 f29 H locs ls hw hl h
        change vp_in (0 : Int32) n18 ∧ (((f19 (0 : Int32).toNatClampNeg) ≤ v26 → (Q (some (n28, f29)))) ∧ (¬ (f19 (0 : Int32).toNatClampNeg) ≤ v26 → (vp_in (((3 : Int32) * v26) + (1 : Int32)) n18 ∧ (vp_in (((3 : Int32) * v26) + (1 : Int32)) n18 ∧ (vp_in (((4 : Int32) * ((f19 (((3 : Int32) * v26) + (1 : Int32)).toNatClampNeg) / (32 : Int32))) + (3 : Int32)) n4 ∧ (vp_in (((4 : Int32) * ((f19 (((3 : Int32) * v26) + (1 : Int32)).toNatClampNeg) - (f19 (((3 : Int32) * v26) + (1 : Int32)).toNatClampNeg) / (32 : Int32) * (32 : Int32))) + (3 : Int32)) n15 ∧ (∀ J36 : Int32 → Prop, (∀ (j37 : Int32), (vp_in (((4 : Int32) * v26) + (3 : Int32)) n28 ∧ (∃ n38x, wpl_X11_both_189 μ f16 n15 f19 n18 n28 f5 n4 ((f19 (((3 : Int32) * v26) + (1 : Int32)).toNatClampNeg) - (f19 (((3 : Int32) * v26) + (1 : Int32)).toNatClampNeg) / (32 : Int32) * (32 : Int32)) ((f19 (((3 : Int32) * v26) + (1 : Int32)).toNatClampNeg) / (32 : Int32)) v26 v27 (fun (f65 : Nat → Int32) => wpl_X11_both_62 μ f16 n15 f19 n18 n28 f5 n4 v27 Q n (v26 + (1 : Int32)) f65) n38x (0 : Int32) (upd f29 (((4 : Int32) * v26) + (3 : Int32)).toNatClampNeg j37))) → J36 j37) → ((¬ v27 = 0 → ((¬ v27 = (1 : Int32) → ((¬ v27 = (2 : Int32) → ((¬ (f5 (((4 : Int32) * ((f19 (((3 : Int32) * v26) + (1 : Int32)).toNatClampNeg) / (32 : Int32))) + (3 : Int32)).toNatClampNeg) = (f16 (((4 : Int32) * ((f19 (((3 : Int32) * v26) + (1 : Int32)).toNatClampNeg) - (f19 (((3 : Int32) * v26) + (1 : Int32)).toNatClampNeg) / (32 : Int32) * (32 : Int32))) + (3 : Int32)).toNatClampNeg) → (J36 (1 : Int32))) ∧ ((f5 (((4 : Int32) * ((f19 (((3 : Int32) * v26) + (1 : Int32)).toNatClampNeg) / (32 : Int32))) + (3 : Int32)).toNatClampNeg) = (f16 (((4 : Int32) * ((f19 (((3 : Int32) * v26) + (1 : Int32)).toNatClampNeg) - (f19 (((3 : Int32) * v26) + (1 : Int32)).toNatClampNeg) / (32 : Int32) * (32 : Int32))) + (3 : Int32)).toNatClampNeg) → (J36 (0 : Int32))))) ∧ (v27 = (2 : Int32) → (J36 (if ((f5 (((4 : Int32) * ((f19 (((3 : Int32) * v26) + (1 : Int32)).toNatClampNeg) / (32 : Int32))) + (3 : Int32)).toNatClampNeg) - (f16 (((4 : Int32) * ((f19 (((3 : Int32) * v26) + (1 : Int32)).toNatClampNeg) - (f19 (((3 : Int32) * v26) + (1 : Int32)).toNatClampNeg) / (32 : Int32) * (32 : Int32))) + (3 : Int32)).toNatClampNeg)) < (0 : Int32) then (0 : Int32) else ((f5 (((4 : Int32) * ((f19 (((3 : Int32) * v26) + (1 : Int32)).toNatClampNeg) / (32 : Int32))) + (3 : Int32)).toNatClampNeg) - (f16 (((4 : Int32) * ((f19 (((3 : Int32) * v26) + (1 : Int32)).toNatClampNeg) - (f19 (((3 : Int32) * v26) + (1 : Int32)).toNatClampNeg) / (32 : Int32) * (32 : Int32))) + (3 : Int32)).toNatClampNeg))))))) ∧ (v27 = (1 : Int32) → (J36 ((f5 (((4 : Int32) * ((f19 (((3 : Int32) * v26) + (1 : Int32)).toNatClampNeg) / (32 : Int32))) + (3 : Int32)).toNatClampNeg) * (f16 (((4 : Int32) * ((f19 (((3 : Int32) * v26) + (1 : Int32)).toNatClampNeg) - (f19 (((3 : Int32) * v26) + (1 : Int32)).toNatClampNeg) / (32 : Int32) * (32 : Int32))) + (3 : Int32)).toNatClampNeg)))))) ∧ (v27 = 0 → (J36 (if (f5 (((4 : Int32) * ((f19 (((3 : Int32) * v26) + (1 : Int32)).toNatClampNeg) / (32 : Int32))) + (3 : Int32)).toNatClampNeg) < (f16 (((4 : Int32) * ((f19 (((3 : Int32) * v26) + (1 : Int32)).toNatClampNeg) - (f19 (((3 : Int32) * v26) + (1 : Int32)).toNatClampNeg) / (32 : Int32) * (32 : Int32))) + (3 : Int32)).toNatClampNeg) then (f16 (((4 : Int32) * ((f19 (((3 : Int32) * v26) + (1 : Int32)).toNatClampNeg) - (f19 (((3 : Int32) * v26) + (1 : Int32)).toNatClampNeg) / (32 : Int32) * (32 : Int32))) + (3 : Int32)).toNatClampNeg) else (f5 (((4 : Int32) * ((f19 (((3 : Int32) * v26) + (1 : Int32)).toNatClampNeg) / (32 : Int32))) + (3 : Int32)).toNatClampNeg)))))))))))) at h
        refine lv_iload hx hb dX11_both_62 (lv_at hl 0 rfl) ?_
        refine lv_aload hx hb dX11_both_64 (lv_at hl 2 rfl) ?_
        refine lv_iconst (v := (0 : Int32)) hx hb dX11_both_66 (by decide) ?_
        obtain ⟨z30, h⟩ := h
        refine n_iald hx hb hK (hw.n (j := 2) rfl) z30 dX11_both_67 ?_
        refine lv_icmp_ge (tgt := 272) hx hb dX11_both_68 (by decide) (fun c31 => ?_) (fun c31 => ?_)
        · have h := h.1 c31
          refine lv_aload hx hb dX11_both_272 (lv_at hl 1 rfl) ?_
          exact hret H locs ls 274 _ _ _ 3 _ _ _ _ hw rfl hq24 ⟨rfl, h⟩ (show 10 ≤ 10 by omega) (show 1350 ≤ 1350 by omega) dX11_both_274
        have h := h.2 c31
        refine lv_aload hx hb dX11_both_71 (lv_at hl 2 rfl) ?_
        refine lv_iconst (v := (3 : Int32)) hx hb dX11_both_73 (by decide) ?_
        refine lv_iload hx hb dX11_both_74 (lv_at hl 0 rfl) ?_
        refine lv_imul hx hb dX11_both_76 ?_
        refine lv_iconst (v := (1 : Int32)) hx hb dX11_both_77 (by decide) ?_
        refine lv_iadd hx hb dX11_both_78 ?_
        obtain ⟨z32, h⟩ := h
        refine n_iald hx hb hK (hw.n (j := 2) rfl) z32 dX11_both_79 ?_
        refine lv_bipush (v := (32 : Int32)) hx hb dX11_both_80 (by decide) ?_
        refine lv_idiv hx hb dX11_both_82 (by decide) ?_
        refine lv_istore (lv' := [(9, .int ((f19 (((3 : Int32) * v26) + (1 : Int32)).toNatClampNeg) / (32 : Int32))), (8, .int v26), (7, .ref q24), (6, .ref q17), (5, .ref q14), (4, .ref q3), (3, .int v27)]) hx hb dX11_both_83 hl (by decide) rfl (fun ls hl => ?_)
        refine lv_aload hx hb dX11_both_85 (lv_at hl 3 rfl) ?_
        refine lv_iconst (v := (3 : Int32)) hx hb dX11_both_87 (by decide) ?_
        refine lv_iload hx hb dX11_both_88 (lv_at hl 1 rfl) ?_
        refine lv_imul hx hb dX11_both_90 ?_
        refine lv_iconst (v := (1 : Int32)) hx hb dX11_both_91 (by decide) ?_
        refine lv_iadd hx hb dX11_both_92 ?_
        obtain ⟨z33, h⟩ := h
        refine n_iald hx hb hK (hw.n (j := 2) rfl) z33 dX11_both_93 ?_
        refine lv_bipush (v := (32 : Int32)) hx hb dX11_both_94 (by decide) ?_
        refine lv_irem hx hb dX11_both_96 (by decide) ?_
        refine lv_istore (lv' := [(10, .int ((f19 (((3 : Int32) * v26) + (1 : Int32)).toNatClampNeg) - (f19 (((3 : Int32) * v26) + (1 : Int32)).toNatClampNeg) / (32 : Int32) * (32 : Int32))), (9, .int ((f19 (((3 : Int32) * v26) + (1 : Int32)).toNatClampNeg) / (32 : Int32))), (8, .int v26), (7, .ref q24), (6, .ref q17), (5, .ref q14), (4, .ref q3), (3, .int v27)]) hx hb dX11_both_97 hl (by decide) rfl (fun ls hl => ?_)
        refine lv_aload hx hb dX11_both_99 (lv_at hl 6 rfl) ?_
        refine lv_iconst (v := (4 : Int32)) hx hb dX11_both_101 (by decide) ?_
        refine lv_iload hx hb dX11_both_102 (lv_at hl 1 rfl) ?_
        refine lv_imul hx hb dX11_both_104 ?_
        refine lv_iconst (v := (3 : Int32)) hx hb dX11_both_105 (by decide) ?_
        refine lv_iadd hx hb dX11_both_106 ?_
        obtain ⟨z34, h⟩ := h
        refine n_iald hx hb hK (hw.n (j := 0) rfl) z34 dX11_both_107 ?_
        refine lv_istore (lv' := [(11, .int (f5 (((4 : Int32) * ((f19 (((3 : Int32) * v26) + (1 : Int32)).toNatClampNeg) / (32 : Int32))) + (3 : Int32)).toNatClampNeg)), (10, .int ((f19 (((3 : Int32) * v26) + (1 : Int32)).toNatClampNeg) - (f19 (((3 : Int32) * v26) + (1 : Int32)).toNatClampNeg) / (32 : Int32) * (32 : Int32))), (9, .int ((f19 (((3 : Int32) * v26) + (1 : Int32)).toNatClampNeg) / (32 : Int32))), (8, .int v26), (7, .ref q24), (6, .ref q17), (5, .ref q14), (4, .ref q3), (3, .int v27)]) hx hb dX11_both_108 hl (by decide) rfl (fun ls hl => ?_)
        refine lv_aload hx hb dX11_both_110 (lv_at hl 6 rfl) ?_
        refine lv_iconst (v := (4 : Int32)) hx hb dX11_both_112 (by decide) ?_
        refine lv_iload hx hb dX11_both_113 (lv_at hl 1 rfl) ?_
        refine lv_imul hx hb dX11_both_115 ?_
        refine lv_iconst (v := (3 : Int32)) hx hb dX11_both_116 (by decide) ?_
        refine lv_iadd hx hb dX11_both_117 ?_
        obtain ⟨z35, h⟩ := h
        refine n_iald hx hb hK (hw.n (j := 1) rfl) z35 dX11_both_118 ?_
        refine lv_istore (lv' := [(12, .int (f16 (((4 : Int32) * ((f19 (((3 : Int32) * v26) + (1 : Int32)).toNatClampNeg) - (f19 (((3 : Int32) * v26) + (1 : Int32)).toNatClampNeg) / (32 : Int32) * (32 : Int32))) + (3 : Int32)).toNatClampNeg)), (11, .int (f5 (((4 : Int32) * ((f19 (((3 : Int32) * v26) + (1 : Int32)).toNatClampNeg) / (32 : Int32))) + (3 : Int32)).toNatClampNeg)), (10, .int ((f19 (((3 : Int32) * v26) + (1 : Int32)).toNatClampNeg) - (f19 (((3 : Int32) * v26) + (1 : Int32)).toNatClampNeg) / (32 : Int32) * (32 : Int32))), (9, .int ((f19 (((3 : Int32) * v26) + (1 : Int32)).toNatClampNeg) / (32 : Int32))), (8, .int v26), (7, .ref q24), (6, .ref q17), (5, .ref q14), (4, .ref q3), (3, .int v27)]) hx hb dX11_both_119 hl (by decide) rfl (fun ls hl => ?_)
        refine lv_aload hx hb dX11_both_121 (lv_at hl 5 rfl) ?_
        refine lv_iconst (v := (4 : Int32)) hx hb dX11_both_123 (by decide) ?_
        refine lv_iload hx hb dX11_both_124 (lv_at hl 4 rfl) ?_
        refine lv_imul hx hb dX11_both_126 ?_
        refine lv_iconst (v := (3 : Int32)) hx hb dX11_both_127 (by decide) ?_
        refine lv_iadd hx hb dX11_both_128 ?_
        refine lv_iload_n hx hb dX11_both_129 rfl (lv_at hl 9 rfl) ?_
        have h := h (fun (j37 : Int32) => ∀ (H : Heap) (locs : List Loc) (ls : Array Slot), MW D (MR ad cI μ) [eI cI q3 n4 f5, eI cI q14 n15 f16, eI cI q17 n18 f19, eI cI q24 n28 f29] (MA ad s.heap.size) s H locs → lv_has ls 15 [(10, .int ((f19 (((3 : Int32) * v26) + (1 : Int32)).toNatClampNeg) - (f19 (((3 : Int32) * v26) + (1 : Int32)).toNatClampNeg) / (32 : Int32) * (32 : Int32))), (9, .int ((f19 (((3 : Int32) * v26) + (1 : Int32)).toNatClampNeg) / (32 : Int32))), (8, .int v26), (7, .ref q24), (6, .ref q17), (5, .ref q14), (4, .ref q3), (3, .int v27)] → W p l e (RA 3 10 1350) s m #[.ref (ad 0), .int a1, .int a2, .int a3] below meth c H locs 10 1350 Z (F0 m 185 ls [.int j37, .int (((4 : Int32) * v26) + (3 : Int32)), .ref q24])) (fun j37 h H locs ls hw hl => by
          obtain ⟨z38, h⟩ := h
          refine n_iast (j := 3) hx hb hK hw rfl z38 dX11_both_185 (fun H locs hw => ?_)
          have hw : MW D (MR ad cI μ) [eI cI q3 n4 f5, eI cI q14 n15 f16, eI cI q17 n18 f19, eI cI q24 n28 (upd f29 (((4 : Int32) * v26) + (3 : Int32)).toNatClampNeg j37)] (MA ad s.heap.size) s H locs := hw
          refine lv_iconst (v := (0 : Int32)) hx hb dX11_both_186 (by decide) ?_
          refine lv_istore (lv' := [(13, .int (0 : Int32)), (10, .int ((f19 (((3 : Int32) * v26) + (1 : Int32)).toNatClampNeg) - (f19 (((3 : Int32) * v26) + (1 : Int32)).toNatClampNeg) / (32 : Int32) * (32 : Int32))), (9, .int ((f19 (((3 : Int32) * v26) + (1 : Int32)).toNatClampNeg) / (32 : Int32))), (8, .int v26), (7, .ref q24), (6, .ref q17), (5, .ref q14), (4, .ref q3), (3, .int v27)]) hx hb dX11_both_187 hl (by decide) rfl (fun ls hl => ?_)
          obtain ⟨n64, h⟩ := h
          have L38 : ∀ (v41 : Int32) (v42 : Int32) (v43 : Int32) (v44 : Int32) (K266 : (Nat → Int32) → Prop), (∀ (f45 : Nat → Int32), ∀ (H : Heap) (locs : List Loc) (ls : Array Slot), MW D (MR ad cI μ) [eI cI q3 n4 f5, eI cI q14 n15 f16, eI cI q17 n18 f19, eI cI q24 n28 f45] (MA ad s.heap.size) s H locs → lv_has ls 15 [(8, .int v43), (7, .ref q24), (6, .ref q17), (5, .ref q14), (4, .ref q3), (3, .int v44)] → K266 f45 → W p l e (RA 3 10 1350) s m #[.ref (ad 0), .int a1, .int a2, .int a3] below meth c H locs 10 1350 Z (F0 m 266 ls [])) → ∀ (n : Nat), ∀ (v40 : Int32) (f45 : Nat → Int32), ∀ (H : Heap) (locs : List Loc) (ls : Array Slot), MW D (MR ad cI μ) [eI cI q3 n4 f5, eI cI q14 n15 f16, eI cI q17 n18 f19, eI cI q24 n28 f45] (MA ad s.heap.size) s H locs → lv_has ls 15 [(13, .int v40), (10, .int v41), (9, .int v42), (8, .int v43), (7, .ref q24), (6, .ref q17), (5, .ref q14), (4, .ref q3), (3, .int v44)] → wpl_X11_both_189 μ f16 n15 f19 n18 n28 f5 n4 v41 v42 v43 v44 K266 n v40 f45 → W p l e (RA 3 10 1350) s m #[.ref (ad 0), .int a1, .int a2, .int a3] below meth c H locs 10 1350 Z (F0 m 189 ls []) := by
            intro v41 v42 v43 v44 K266 hK266
            intro n
            induction n with
            | zero => intro v40 f45 H locs ls hw hl h; exact False.elim h
            | succ n ih38 =>
              intro v40 f45 H locs ls hw hl h
              change ((3 : Int32) ≤ v40 → (K266 f45)) ∧ (¬ (3 : Int32) ≤ v40 → (vp_in (((4 : Int32) * v42) + v40) n4 ∧ (vp_in (((4 : Int32) * v41) + v40) n15 ∧ (∃ n48x, wpl_X11_both_221 μ f16 n15 f19 n18 n28 f5 n4 (((f5 (((4 : Int32) * v42) + v40).toNatClampNeg) * (32 : Int32)) + (f16 (((4 : Int32) * v41) + v40).toNatClampNeg)) v40 v41 v42 v43 v44 (fun (f63 : Nat → Int32) => wpl_X11_both_189 μ f16 n15 f19 n18 n28 f5 n4 v41 v42 v43 v44 K266 n (v40 + (1 : Int32)) f63) n48x f45)))) at h
              refine lv_iload hx hb dX11_both_189 (lv_at hl 0 rfl) ?_
              refine lv_iconst (v := (3 : Int32)) hx hb dX11_both_191 (by decide) ?_
              refine lv_icmp_ge (tgt := 266) hx hb dX11_both_192 (by decide) (fun c46 => ?_) (fun c46 => ?_)
              · have h := h.1 c46
                exact hK266 f45 H locs ls hw (lv_sub hl [3, 4, 5, 6, 7, 8] rfl) h
              have h := h.2 c46
              refine lv_aload hx hb dX11_both_195 (lv_at hl 7 rfl) ?_
              refine lv_iconst (v := (4 : Int32)) hx hb dX11_both_197 (by decide) ?_
              refine lv_iload hx hb dX11_both_198 (lv_at hl 2 rfl) ?_
              refine lv_imul hx hb dX11_both_200 ?_
              refine lv_iload hx hb dX11_both_201 (lv_at hl 0 rfl) ?_
              refine lv_iadd hx hb dX11_both_203 ?_
              obtain ⟨z47, h⟩ := h
              refine n_iald hx hb hK (hw.n (j := 0) rfl) z47 dX11_both_204 ?_
              refine lv_bipush (v := (32 : Int32)) hx hb dX11_both_205 (by decide) ?_
              refine lv_imul hx hb dX11_both_207 ?_
              refine lv_aload hx hb dX11_both_208 (lv_at hl 6 rfl) ?_
              refine lv_iconst (v := (4 : Int32)) hx hb dX11_both_210 (by decide) ?_
              refine lv_iload hx hb dX11_both_211 (lv_at hl 1 rfl) ?_
              refine lv_imul hx hb dX11_both_213 ?_
              refine lv_iload hx hb dX11_both_214 (lv_at hl 0 rfl) ?_
              refine lv_iadd hx hb dX11_both_216 ?_
              obtain ⟨z48, h⟩ := h
              refine n_iald hx hb hK (hw.n (j := 1) rfl) z48 dX11_both_217 ?_
              refine lv_iadd hx hb dX11_both_218 ?_
              refine lv_istore (lv' := [(14, .int (((f5 (((4 : Int32) * v42) + v40).toNatClampNeg) * (32 : Int32)) + (f16 (((4 : Int32) * v41) + v40).toNatClampNeg))), (13, .int v40), (10, .int v41), (9, .int v42), (8, .int v43), (7, .ref q24), (6, .ref q17), (5, .ref q14), (4, .ref q3), (3, .int v44)]) hx hb dX11_both_219 hl (by decide) rfl (fun ls hl => ?_)
              obtain ⟨n62, h⟩ := h
              have L48 : ∀ (v50 : Int32) (v51 : Int32) (v52 : Int32) (v53 : Int32) (v54 : Int32) (v55 : Int32) (K260 : (Nat → Int32) → Prop), (∀ (f56 : Nat → Int32), ∀ (H : Heap) (locs : List Loc) (ls : Array Slot), MW D (MR ad cI μ) [eI cI q3 n4 f5, eI cI q14 n15 f16, eI cI q17 n18 f19, eI cI q24 n28 f56] (MA ad s.heap.size) s H locs → lv_has ls 15 [(13, .int v51), (10, .int v52), (9, .int v53), (8, .int v54), (7, .ref q24), (6, .ref q17), (5, .ref q14), (4, .ref q3), (3, .int v55)] → K260 f56 → W p l e (RA 3 10 1350) s m #[.ref (ad 0), .int a1, .int a2, .int a3] below meth c H locs 10 1350 Z (F0 m 260 ls [])) → ∀ (n : Nat), ∀ (f56 : Nat → Int32), ∀ (H : Heap) (locs : List Loc) (ls : Array Slot), MW D (MR ad cI μ) [eI cI q3 n4 f5, eI cI q14 n15 f16, eI cI q17 n18 f19, eI cI q24 n28 f56] (MA ad s.heap.size) s H locs → lv_has ls 15 [(14, .int v50), (13, .int v51), (10, .int v52), (9, .int v53), (8, .int v54), (7, .ref q24), (6, .ref q17), (5, .ref q14), (4, .ref q3), (3, .int v55)] → wpl_X11_both_221 μ f16 n15 f19 n18 n28 f5 n4 v50 v51 v52 v53 v54 v55 K260 n f56 → W p l e (RA 3 10 1350) s m #[.ref (ad 0), .int a1, .int a2, .int a3] below meth c H locs 10 1350 Z (F0 m 221 ls []) := by
                intro v50 v51 v52 v53 v54 v55 K260 hK260
                intro n
                induction n with
                | zero => intro f56 H locs ls hw hl h; exact False.elim h
                | succ n ih48 =>
                  intro f56 H locs ls hw hl h
                  change vp_in (((4 : Int32) * v54) + v51) n28 ∧ (vp_in (((3 : Int32) * (f56 (((4 : Int32) * v54) + v51).toNatClampNeg)) + (1 : Int32)) n18 ∧ (((f19 (((3 : Int32) * (f56 (((4 : Int32) * v54) + v51).toNatClampNeg)) + (1 : Int32)).toNatClampNeg) = v50 → (K260 f56)) ∧ (¬ (f19 (((3 : Int32) * (f56 (((4 : Int32) * v54) + v51).toNatClampNeg)) + (1 : Int32)).toNatClampNeg) = v50 → (vp_in (((4 : Int32) * v54) + v51) n28 ∧ (vp_in (((4 : Int32) * v54) + v51) n28 ∧ (wpl_X11_both_221 μ f16 n15 f19 n18 n28 f5 n4 v50 v51 v52 v53 v54 v55 K260 n (upd f56 (((4 : Int32) * v54) + v51).toNatClampNeg ((f56 (((4 : Int32) * v54) + v51).toNatClampNeg) + (1 : Int32))))))))) at h
                  refine lv_aload hx hb dX11_both_221 (lv_at hl 6 rfl) ?_
                  refine lv_iconst (v := (3 : Int32)) hx hb dX11_both_223 (by decide) ?_
                  refine lv_aload hx hb dX11_both_224 (lv_at hl 5 rfl) ?_
                  refine lv_iconst (v := (4 : Int32)) hx hb dX11_both_226 (by decide) ?_
                  refine lv_iload hx hb dX11_both_227 (lv_at hl 4 rfl) ?_
                  refine lv_imul hx hb dX11_both_229 ?_
                  refine lv_iload hx hb dX11_both_230 (lv_at hl 1 rfl) ?_
                  refine lv_iadd hx hb dX11_both_232 ?_
                  obtain ⟨z57, h⟩ := h
                  refine n_iald hx hb hK (hw.n (j := 3) rfl) z57 dX11_both_233 ?_
                  refine lv_imul hx hb dX11_both_234 ?_
                  refine lv_iconst (v := (1 : Int32)) hx hb dX11_both_235 (by decide) ?_
                  refine lv_iadd hx hb dX11_both_236 ?_
                  obtain ⟨z58, h⟩ := h
                  refine n_iald hx hb hK (hw.n (j := 2) rfl) z58 dX11_both_237 ?_
                  refine lv_iload hx hb dX11_both_238 (lv_at hl 0 rfl) ?_
                  refine lv_icmp_eq (tgt := 260) hx hb dX11_both_240 (by decide) (fun c59 => ?_) (fun c59 => ?_)
                  · have h := h.1 c59
                    exact hK260 f56 H locs ls hw (lv_sub hl [1, 2, 3, 4, 5, 6, 7, 8, 9] rfl) h
                  have h := h.2 c59
                  refine lv_aload hx hb dX11_both_243 (lv_at hl 5 rfl) ?_
                  refine lv_iconst (v := (4 : Int32)) hx hb dX11_both_245 (by decide) ?_
                  refine lv_iload hx hb dX11_both_246 (lv_at hl 4 rfl) ?_
                  refine lv_imul hx hb dX11_both_248 ?_
                  refine lv_iload hx hb dX11_both_249 (lv_at hl 1 rfl) ?_
                  refine lv_iadd hx hb dX11_both_251 ?_
                  refine lv_dup2_11 hx hb dX11_both_252 rfl rfl ?_
                  obtain ⟨z60, h⟩ := h
                  refine n_iald hx hb hK (hw.n (j := 3) rfl) z60 dX11_both_253 ?_
                  refine lv_iconst (v := (1 : Int32)) hx hb dX11_both_254 (by decide) ?_
                  refine lv_iadd hx hb dX11_both_255 ?_
                  obtain ⟨z61, h⟩ := h
                  refine n_iast (j := 3) hx hb hK hw rfl z61 dX11_both_256 (fun H locs hw => ?_)
                  have hw : MW D (MR ad cI μ) [eI cI q3 n4 f5, eI cI q14 n15 f16, eI cI q17 n18 f19, eI cI q24 n28 (upd f56 (((4 : Int32) * v54) + v51).toNatClampNeg ((f56 (((4 : Int32) * v54) + v51).toNatClampNeg) + (1 : Int32)))] (MA ad s.heap.size) s H locs := hw
                  refine lv_goto (tgt := 221) hx hb dX11_both_257 (by decide) ?_
                  exact ih48 (upd f56 (((4 : Int32) * v54) + v51).toNatClampNeg ((f56 (((4 : Int32) * v54) + v51).toNatClampNeg) + (1 : Int32))) H locs ls hw (lv_sub hl [0, 1, 2, 3, 4, 5, 6, 7, 8, 9] rfl) h
              refine L48 (((f5 (((4 : Int32) * v42) + v40).toNatClampNeg) * (32 : Int32)) + (f16 (((4 : Int32) * v41) + v40).toNatClampNeg)) v40 v41 v42 v43 v44 _ ?_ n62 f45 H locs ls hw (lv_sub hl [0, 1, 2, 3, 4, 5, 6, 7, 8, 9] rfl) h
              intro f63 H locs ls hw hl h
              refine lv_iinc (v := (v40 + (1 : Int32))) (lv' := [(13, .int (v40 + (1 : Int32))), (10, .int v41), (9, .int v42), (8, .int v43), (7, .ref q24), (6, .ref q17), (5, .ref q14), (4, .ref q3), (3, .int v44)]) hx hb dX11_both_260 hl (k := 0) rfl rfl (by decide) rfl (fun ls hl => ?_)
              refine lv_goto (tgt := 189) hx hb dX11_both_263 (by decide) ?_
              exact ih38 (v40 + (1 : Int32)) f63 H locs ls hw (lv_sub hl [0, 1, 2, 3, 4, 5, 6, 7, 8] rfl) h
          refine L38 ((f19 (((3 : Int32) * v26) + (1 : Int32)).toNatClampNeg) - (f19 (((3 : Int32) * v26) + (1 : Int32)).toNatClampNeg) / (32 : Int32) * (32 : Int32)) ((f19 (((3 : Int32) * v26) + (1 : Int32)).toNatClampNeg) / (32 : Int32)) v26 v27 _ ?_ n64 (0 : Int32) (upd f29 (((4 : Int32) * v26) + (3 : Int32)).toNatClampNeg j37) H locs ls hw (lv_sub hl [0, 1, 2, 3, 4, 5, 6, 7, 8] rfl) h
          intro f65 H locs ls hw hl h
          refine lv_iinc (v := (v26 + (1 : Int32))) (lv' := [(8, .int (v26 + (1 : Int32))), (7, .ref q24), (6, .ref q17), (5, .ref q14), (4, .ref q3), (3, .int v27)]) hx hb dX11_both_266 hl (k := 0) rfl rfl (by decide) rfl (fun ls hl => ?_)
          refine lv_goto (tgt := 62) hx hb dX11_both_269 (by decide) ?_
          exact ih24 (v26 + (1 : Int32)) f65 H locs ls hw (lv_sub hl [0, 1, 2, 3, 4, 5] rfl) h)
        refine lv_if_ne (tgt := 143) hx hb dX11_both_130 (by decide) (fun c66 => ?_) (fun c66 => ?_)
        · have h := h.1 c66
          refine lv_iload_n hx hb dX11_both_143 rfl (lv_at hl 9 rfl) ?_
          refine lv_iconst (v := (1 : Int32)) hx hb dX11_both_144 (by decide) ?_
          refine lv_icmp_ne (tgt := 156) hx hb dX11_both_145 (by decide) (fun c67 => ?_) (fun c67 => ?_)
          · have h := h.1 c67
            refine lv_iload_n hx hb dX11_both_156 rfl (lv_at hl 9 rfl) ?_
            refine lv_iconst (v := (2 : Int32)) hx hb dX11_both_157 (by decide) ?_
            refine lv_icmp_ne (tgt := 173) hx hb dX11_both_158 (by decide) (fun c68 => ?_) (fun c68 => ?_)
            · have h := h.1 c68
              refine lv_iload hx hb dX11_both_173 (lv_at hl 1 rfl) ?_
              refine lv_iload hx hb dX11_both_175 (lv_at hl 0 rfl) ?_
              refine lv_icmp_ne (tgt := 184) hx hb dX11_both_177 (by decide) (fun c69 => ?_) (fun c69 => ?_)
              · have h := h.1 c69
                refine lv_iconst (v := (1 : Int32)) hx hb dX11_both_184 (by decide) ?_
                exact h H locs ls hw (lv_sub hl [2, 3, 4, 5, 6, 7, 8, 9] rfl)
              have h := h.2 c69
              refine lv_iconst (v := (0 : Int32)) hx hb dX11_both_180 (by decide) ?_
              refine lv_goto (tgt := 185) hx hb dX11_both_181 (by decide) ?_
              exact h H locs ls hw (lv_sub hl [2, 3, 4, 5, 6, 7, 8, 9] rfl)
            have h := h.2 c68
            refine lv_iload hx hb dX11_both_161 (lv_at hl 1 rfl) ?_
            refine lv_iload hx hb dX11_both_163 (lv_at hl 0 rfl) ?_
            refine lv_isub hx hb dX11_both_165 ?_
            refine lv_iconst (v := (0 : Int32)) hx hb dX11_both_166 (by decide) ?_
            refine va_mmax hx hb (hml.trans hl.1.symm) hown (ht _ q_1493) (ht _ q_942) (ht _ q_64) (ht _ q_943) (Nat.le_of_ble_eq_true rfl) (Nat.le_of_ble_eq_true rfl) (show 10 ≤ 10 by omega) (show 1350 ≤ 1350 by omega) dX11_both_167 ?_
            refine lv_goto (tgt := 185) hx hb dX11_both_170 (by decide) ?_
            exact h H locs ls hw (lv_sub hl [2, 3, 4, 5, 6, 7, 8, 9] rfl)
          have h := h.2 c67
          refine lv_iload hx hb dX11_both_148 (lv_at hl 1 rfl) ?_
          refine lv_iload hx hb dX11_both_150 (lv_at hl 0 rfl) ?_
          refine lv_imul hx hb dX11_both_152 ?_
          refine lv_goto (tgt := 185) hx hb dX11_both_153 (by decide) ?_
          exact h H locs ls hw (lv_sub hl [2, 3, 4, 5, 6, 7, 8, 9] rfl)
        have h := h.2 c66
        refine lv_iload hx hb dX11_both_133 (lv_at hl 1 rfl) ?_
        refine lv_iload hx hb dX11_both_135 (lv_at hl 0 rfl) ?_
        refine va_mmax hx hb (hml.trans hl.1.symm) hown (ht _ q_1493) (ht _ q_942) (ht _ q_64) (ht _ q_943) (Nat.le_of_ble_eq_true rfl) (Nat.le_of_ble_eq_true rfl) (show 10 ≤ 10 by omega) (show 1350 ≤ 1350 by omega) dX11_both_137 ?_
        refine lv_goto (tgt := 185) hx hb dX11_both_140 (by decide) ?_
        exact h H locs ls hw (lv_sub hl [2, 3, 4, 5, 6, 7, 8, 9] rfl)
    exact L24 (((4 : Int32) * (f19 (0 : Int32).toNatClampNeg)).toNatClampNeg) a3 n70 (0 : Int32) (fun _ => 0) H locs ls hw (lv_sub hl [0, 1, 2, 3, 4, 8] rfl) h
  have h := h.2 c21
  refine lv_null hx hb dX11_both_47 ?_
  exact hretN H locs ls 48 _ _ _ _ hw ⟨rfl, h⟩ (show 9 ≤ 10 by omega) (show 1222 ≤ 1350 by omega) dX11_both_48
end
/-! part 67.r6 -/
section
def wpl_X11_clear_23 (v6 : Int32) (Q : TMem → Prop) : Nat → Int32 → TMem → Prop
  | 0, _, _ => False
  | n + 1, v5, μ7 =>
    ((21 : Int32) ≤ v5 → (Q μ7)) ∧ (¬ (21 : Int32) ≤ v5 → (wp_X11_key v6 (0 : Int32) (0 : Int32) (fun (r9 : Int32) => vp_in (r9 + v5) (ml 4) ∧ (wpl_X11_clear_23 v6 Q n (v5 + (1 : Int32)) (tms μ7 4 (r9 + v5).toNatClampNeg (0 : Int32))))))
def wp_X11_clear (μ : TMem) (a1 : Int32) (a2 : Int32) (Q : TMem → Prop) : Prop :=
  vp_in a1 (ml 1) ∧ (vp_in a1 (ml 2) ∧ (vp_in a1 (ml 3) ∧ (∃ n3x, wpl_X11_clear_23 a1 Q n3x (0 : Int32) (tms (tms (tms μ 1 a1.toNatClampNeg a2) 2 a1.toNatClampNeg (1 : Int32)) 3 a1.toNatClampNeg (0 : Int32)))))
set_option maxHeartbeats 4000000 in
set_option maxRecDepth 100000 in
theorem c_X11_clear {l : Launch} {D : va_G} {ad : Nat → Nat} {cI cL : ClassId}  (μ : TMem) (sz : Nat) (a1 : Int32) (a2 : Int32)  {Q : TMem → Prop} (h : wp_X11_clear μ a1 a2 Q) : MMv l yX11_clear (.code yX11_clear cX11_clear 4 (Option.none : Option Jvm.ClassFile.FieldType)) 1 0 0 [.ref (ad 0), .int a1, .int a2] D ad cI cL sz μ [] Q := by
  refine M_metv (by decide +kernel) (Nat.le_of_ble_eq_true rfl) ?_
  intro p e s m below meth c Z ls hx hb hml hown ht hK hP0 hI hne hw hret hl
  have hl : lv_has ls 4 [(0, .ref (ad 0)), (1, .int a1), (2, .int a2)] := hl
  suffices hh : ∀ (H : Heap) (locs : List Loc), MW D (MR ad cI μ) [] (MA ad s.heap.size) s H locs → W p l e (RA 1 0 0) s m #[.ref (ad 0), .int a1, .int a2] below meth c H locs 0 0 Z (F0 m 0 ls []) from hh _ _ hw
  intro H locs hw
  change vp_in a1 (ml 1) ∧ (vp_in a1 (ml 2) ∧ (vp_in a1 (ml 3) ∧ (∃ n3x, wpl_X11_clear_23 a1 Q n3x (0 : Int32) (tms (tms (tms μ 1 a1.toNatClampNeg a2) 2 a1.toNatClampNeg (1 : Int32)) 3 a1.toNatClampNeg (0 : Int32))))) at h
  refine lv_aload_n hx hb dX11_clear_0 rfl (lv_at hl 0 rfl) ?_
  refine m_get (i := 0) hx hb ht hown hK hw (by decide) (ht _ q_1313) rfl rfl dX11_clear_1 ?_
  refine lv_iload_n hx hb dX11_clear_4 rfl (lv_at hl 1 rfl) ?_
  refine lv_iload_n hx hb dX11_clear_5 rfl (lv_at hl 2 rfl) ?_
  obtain ⟨z1, h⟩ := h
  refine m_iast hx hb hK hw (by decide) z1 dX11_clear_6 (fun H locs hw => ?_)
  refine lv_aload_n hx hb dX11_clear_7 rfl (lv_at hl 0 rfl) ?_
  refine m_get (i := 1) hx hb ht hown hK hw (by decide) (ht _ q_1314) rfl rfl dX11_clear_8 ?_
  refine lv_iload_n hx hb dX11_clear_11 rfl (lv_at hl 1 rfl) ?_
  refine lv_iconst (v := (1 : Int32)) hx hb dX11_clear_12 (by decide) ?_
  obtain ⟨z2, h⟩ := h
  refine m_iast hx hb hK hw (by decide) z2 dX11_clear_13 (fun H locs hw => ?_)
  refine lv_aload_n hx hb dX11_clear_14 rfl (lv_at hl 0 rfl) ?_
  refine m_get (i := 2) hx hb ht hown hK hw (by decide) (ht _ q_1315) rfl rfl dX11_clear_15 ?_
  refine lv_iload_n hx hb dX11_clear_18 rfl (lv_at hl 1 rfl) ?_
  refine lv_iconst (v := (0 : Int32)) hx hb dX11_clear_19 (by decide) ?_
  obtain ⟨z3, h⟩ := h
  refine m_iast hx hb hK hw (by decide) z3 dX11_clear_20 (fun H locs hw => ?_)
  refine lv_iconst (v := (0 : Int32)) hx hb dX11_clear_21 (by decide) ?_
  refine lv_istore_n (lv' := [(3, .int (0 : Int32)), (0, .ref (ad 0)), (1, .int a1), (2, .int a2)]) hx hb dX11_clear_22 rfl hl (by decide) rfl (fun ls hl => ?_)
  obtain ⟨n11, h⟩ := h
  have L3 : ∀ (v6 : Int32), ∀ (n : Nat), ∀ (v5 : Int32) (μ7 : TMem), ∀ (H : Heap) (locs : List Loc) (ls : Array Slot), MW D (MR ad cI μ7) [] (MA ad s.heap.size) s H locs → lv_has ls 4 [(3, .int v5), (0, .ref (ad 0)), (1, .int v6)] → wpl_X11_clear_23 v6 Q n v5 μ7 → W p l e (RA 1 0 0) s m #[.ref (ad 0), .int a1, .int a2] below meth c H locs 0 0 Z (F0 m 23 ls []) := by
    intro v6
    intro n
    induction n with
    | zero => intro v5 μ7 H locs ls hw hl h; exact False.elim h
    | succ n ih3 =>
      intro v5 μ7 H locs ls hw hl h
      change ((21 : Int32) ≤ v5 → (Q μ7)) ∧ (¬ (21 : Int32) ≤ v5 → (wp_X11_key v6 (0 : Int32) (0 : Int32) (fun (r9 : Int32) => vp_in (r9 + v5) (ml 4) ∧ (wpl_X11_clear_23 v6 Q n (v5 + (1 : Int32)) (tms μ7 4 (r9 + v5).toNatClampNeg (0 : Int32)))))) at h
      refine lv_iload_n hx hb dX11_clear_23 rfl (lv_at hl 0 rfl) ?_
      refine lv_bipush (v := (21 : Int32)) hx hb dX11_clear_24 (by decide) ?_
      refine lv_icmp_ge (tgt := 49) hx hb dX11_clear_26 (by decide) (fun c8 => ?_) (fun c8 => ?_)
      · have h := h.1 c8
        exact hret H locs ls 49 _ _ _ _ hw h (show 0 ≤ 0 by omega) (show 0 ≤ 0 by omega) dX11_clear_49
      have h := h.2 c8
      refine lv_aload_n hx hb dX11_clear_29 rfl (lv_at hl 1 rfl) ?_
      refine m_get (i := 3) hx hb ht hown hK hw (by decide) (ht _ q_1316) rfl rfl dX11_clear_30 ?_
      refine lv_iload_n hx hb dX11_clear_33 rfl (lv_at hl 2 rfl) ?_
      refine lv_iconst (v := (0 : Int32)) hx hb dX11_clear_34 (by decide) ?_
      refine lv_iconst (v := (0 : Int32)) hx hb dX11_clear_35 (by decide) ?_
      refine P_calli (va_runS (own := "LeastreaderModel") (As := [.int v6, .int (0 : Int32), .int (0 : Int32)]) (rest := [.ref (ad 4)]) ⟨hx, hb, hml, hown, ht⟩ (c_X11_key v6 (0 : Int32) (0 : Int32) h) (va_cwS 3 ht (G_S q_1356 q_1357 q_56 q_1358) rfl rfl rfl hd_79 ⟨Nat.le_of_ble_eq_true rfl, Nat.le_of_ble_eq_true rfl⟩) ⟨PM_blind, PM_pre⟩ rfl rfl hl.1 rfl (lv_room (Nat.le_of_ble_eq_true rfl)) dX11_clear_36 ⟨show 0 + 0 ≤ 0 by omega, show 0 + 0 ≤ 0 by omega⟩) (fun r9 h => ?_)
      refine lv_iload_n hx hb dX11_clear_39 rfl (lv_at hl 0 rfl) ?_
      refine lv_iadd hx hb dX11_clear_40 ?_
      refine lv_iconst (v := (0 : Int32)) hx hb dX11_clear_41 (by decide) ?_
      obtain ⟨z10, h⟩ := h
      refine m_iast hx hb hK hw (by decide) z10 dX11_clear_42 (fun H locs hw => ?_)
      refine lv_iinc (v := (v5 + (1 : Int32))) (lv' := [(3, .int (v5 + (1 : Int32))), (0, .ref (ad 0)), (1, .int v6)]) hx hb dX11_clear_43 hl (k := 0) rfl rfl (by decide) rfl (fun ls hl => ?_)
      refine lv_goto (tgt := 23) hx hb dX11_clear_46 (by decide) ?_
      exact ih3 (v5 + (1 : Int32)) (tms μ7 4 (r9 + v5).toNatClampNeg (0 : Int32)) H locs ls hw (lv_sub hl [0, 1, 2] rfl) h
  exact L3 a1 n11 (0 : Int32) (tms (tms (tms μ 1 a1.toNatClampNeg a2) 2 a1.toNatClampNeg (1 : Int32)) 3 a1.toNatClampNeg (0 : Int32)) H locs ls hw (lv_sub hl [0, 1, 2] rfl) h
def wp_X11_begin (μ : TMem) (a1 : Int32) (a2 : Int32) (Q : Int32 → TMem → Prop) : Prop :=
  wp_X11_isOne a1 (fun (r1 : Int32) => wp_X11_isIn a2 (1 : Int32) (7 : Int32) (fun (r2 : Int32) => wp_X11_isThrown μ r1 r2 (fun (r4 : Int32) (μ3 : TMem) => (r4 = 0 → (wp_X11_arrowsOf μ3 a1 (fun (r8 : Int32) => wp_X11_clear μ3 a1 a2 (fun (μ9 : TMem) => wp_X11_did μ9 r8 (fun (r11 : Int32) (μ10 : TMem) => Q r11 μ10))))) ∧ (¬ r4 = 0 → (Q (0 : Int32) μ3)))))
set_option maxHeartbeats 4000000 in
set_option maxRecDepth 100000 in
theorem c_X11_begin {l : Launch} {D : va_G} {ad : Nat → Nat} {cI cL : ClassId}  (μ : TMem) (sz : Nat) (a1 : Int32) (a2 : Int32)  {Q : Int32 → TMem → Prop} (h : wp_X11_begin μ a1 a2 Q) : MMi l yX11_begin (.code yX11_begin cX11_begin 4 (Option.some Jvm.ClassFile.FieldType.int)) 2 0 0 [.ref (ad 0), .int a1, .int a2] D ad cI cL sz μ [] Q := by
  refine M_meti (by decide +kernel) (Nat.le_of_ble_eq_true rfl) ?_
  intro p e s m below meth c Z ls hx hb hml hown ht hK hP0 hI hne hw hret hl
  have hl : lv_has ls 4 [(0, .ref (ad 0)), (1, .int a1), (2, .int a2)] := hl
  suffices hh : ∀ (H : Heap) (locs : List Loc), MW D (MR ad cI μ) [] (MA ad s.heap.size) s H locs → W p l e (RA 2 0 0) s m #[.ref (ad 0), .int a1, .int a2] below meth c H locs 0 0 Z (F0 m 0 ls []) from hh _ _ hw
  intro H locs hw
  change wp_X11_isOne a1 (fun (r1 : Int32) => wp_X11_isIn a2 (1 : Int32) (7 : Int32) (fun (r2 : Int32) => wp_X11_isThrown μ r1 r2 (fun (r4 : Int32) (μ3 : TMem) => (r4 = 0 → (wp_X11_arrowsOf μ3 a1 (fun (r8 : Int32) => wp_X11_clear μ3 a1 a2 (fun (μ9 : TMem) => wp_X11_did μ9 r8 (fun (r11 : Int32) (μ10 : TMem) => Q r11 μ10))))) ∧ (¬ r4 = 0 → (Q (0 : Int32) μ3))))) at h
  refine lv_aload_n hx hb dX11_begin_0 rfl (lv_at hl 0 rfl) ?_
  refine lv_iload_n hx hb dX11_begin_1 rfl (lv_at hl 1 rfl) ?_
  refine P_calli (va_runS (own := "LeastreaderModel") (As := [.int a1]) (rest := [.ref (ad 0)]) ⟨hx, hb, hml, hown, ht⟩ (c_X11_isOne a1 h) (va_cwS 1 ht (G_S q_1342 q_1343 q_56 q_1344) rfl rfl rfl hd_91 ⟨Nat.le_of_ble_eq_true rfl, Nat.le_of_ble_eq_true rfl⟩) ⟨PM_blind, PM_pre⟩ rfl rfl hl.1 rfl (lv_room (Nat.le_of_ble_eq_true rfl)) dX11_begin_2 ⟨show 0 + 0 ≤ 0 by omega, show 0 + 0 ≤ 0 by omega⟩) (fun r1 h => ?_)
  refine lv_iload_n hx hb dX11_begin_5 rfl (lv_at hl 2 rfl) ?_
  refine lv_iconst (v := (1 : Int32)) hx hb dX11_begin_6 (by decide) ?_
  refine lv_bipush (v := (7 : Int32)) hx hb dX11_begin_7 (by decide) ?_
  refine P_calli (va_runS (own := "LeastreaderModel") (As := [.int a2, .int (1 : Int32), .int (7 : Int32)]) (rest := [.int r1, .ref (ad 0)]) ⟨hx, hb, hml, hown, ht⟩ (c_X11_isIn a2 (1 : Int32) (7 : Int32) h) (va_cwS 3 ht (G_S q_1345 q_1346 q_56 q_1347) rfl rfl rfl hd_78 ⟨Nat.le_of_ble_eq_true rfl, Nat.le_of_ble_eq_true rfl⟩) ⟨PM_blind, PM_pre⟩ rfl rfl hl.1 rfl (lv_room (Nat.le_of_ble_eq_true rfl)) dX11_begin_9 ⟨show 0 + 0 ≤ 0 by omega, show 0 + 0 ≤ 0 by omega⟩) (fun r2 h => ?_)
  refine M_calli hw (MA.up hw.2.2.1.1) (va_runV (own := "LeastreaderModel") (As := [.int r1, .int r2]) (rest := []) ⟨hx, hb, hml, hown, ht⟩ (c_X11_isThrown μ H.size r1 r2 h) (cwV 2 ht (G_V q_1348 q_1350 q_26 q_56 q_1351) rfl rfl rfl ⟨rfl, hd_92⟩ ⟨Nat.le_of_ble_eq_true rfl, Nat.le_of_ble_eq_true rfl⟩) ⟨MB.blind, M_recv hK hw, MB.pre hK hI hw va_P0 ne0⟩ rfl rfl hl.1 rfl (lv_room (Nat.le_of_ble_eq_true rfl)) dX11_begin_12 ⟨show 0 + 0 ≤ 0 by omega, show 0 + 0 ≤ 0 by omega⟩) (fun r4 μ3 H locs h hw => ?_)
  refine lv_if_eq (tgt := 20) hx hb dX11_begin_15 (by decide) (fun c5 => ?_) (fun c5 => ?_)
  · have h := h.1 c5
    refine lv_aload_n hx hb dX11_begin_20 rfl (lv_at hl 0 rfl) ?_
    refine lv_iload_n hx hb dX11_begin_21 rfl (lv_at hl 1 rfl) ?_
    refine M_calli hw (MA.up hw.2.2.1.1) (va_runV (own := "LeastreaderModel") (As := [.int a1]) (rest := []) ⟨hx, hb, hml, hown, ht⟩ (c_X11_arrowsOf μ3 H.size a1 h) (cwV 1 ht (G_V q_1352 q_1354 q_27 q_56 q_1355) rfl rfl rfl ⟨rfl, hd_93⟩ ⟨Nat.le_of_ble_eq_true rfl, Nat.le_of_ble_eq_true rfl⟩) ⟨MB.blind, M_recv hK hw, MB.pre hK hI hw va_P0 ne0⟩ rfl rfl hl.1 rfl (lv_room (Nat.le_of_ble_eq_true rfl)) dX11_begin_22 ⟨show 0 + 0 ≤ 0 by omega, show 0 + 0 ≤ 0 by omega⟩) (fun r8 μ6 H locs h hw => ?_)
    obtain ⟨e7, h⟩ := h
    rw [e7] at hw
    refine lv_istore_n (lv' := [(3, .int r8), (0, .ref (ad 0)), (1, .int a1), (2, .int a2)]) hx hb dX11_begin_25 rfl hl (by decide) rfl (fun ls hl => ?_)
    refine lv_aload_n hx hb dX11_begin_26 rfl (lv_at hl 1 rfl) ?_
    refine lv_iload_n hx hb dX11_begin_27 rfl (lv_at hl 2 rfl) ?_
    refine lv_iload_n hx hb dX11_begin_28 rfl (lv_at hl 3 rfl) ?_
    refine M_callv hw (MA.up hw.2.2.1.1) (va_runV (own := "LeastreaderModel") (As := [.int a1, .int a2]) (rest := []) ⟨hx, hb, hml, hown, ht⟩ (c_X11_clear μ3 H.size a1 a2 h) (cwV 2 ht (G_V q_1360 q_1362 q_28 q_56 q_1363) rfl rfl rfl ⟨rfl, hd_94⟩ ⟨Nat.le_of_ble_eq_true rfl, Nat.le_of_ble_eq_true rfl⟩) ⟨MB.blind, M_recv hK hw, MB.pre hK hI hw va_P0 ne0⟩ rfl rfl hl.1 rfl (lv_room (Nat.le_of_ble_eq_true rfl)) dX11_begin_29 ⟨show 0 + 0 ≤ 0 by omega, show 0 + 0 ≤ 0 by omega⟩) (fun μ9 H locs h hw => ?_)
    refine lv_aload_n hx hb dX11_begin_32 rfl (lv_at hl 1 rfl) ?_
    refine lv_iload_n hx hb dX11_begin_33 rfl (lv_at hl 0 rfl) ?_
    refine M_calli hw (MA.up hw.2.2.1.1) (va_runV (own := "LeastreaderModel") (As := [.int r8]) (rest := []) ⟨hx, hb, hml, hown, ht⟩ (c_X11_did μ9 H.size r8 h) (cwV 1 ht (G_V q_1364 q_1366 q_29 q_56 q_1367) rfl rfl rfl ⟨rfl, hd_95⟩ ⟨Nat.le_of_ble_eq_true rfl, Nat.le_of_ble_eq_true rfl⟩) ⟨MB.blind, M_recv hK hw, MB.pre hK hI hw va_P0 ne0⟩ rfl rfl hl.1 rfl (lv_room (Nat.le_of_ble_eq_true rfl)) dX11_begin_34 ⟨show 0 + 0 ≤ 0 by omega, show 0 + 0 ≤ 0 by omega⟩) (fun r11 μ10 H locs h hw => ?_)
    exact hret H locs ls 37 _ _ _ _ _ hw h rfl (show 0 ≤ 0 by omega) (show 0 ≤ 0 by omega) dX11_begin_37
  have h := h.2 c5
  refine lv_iconst (v := (0 : Int32)) hx hb dX11_begin_18 (by decide) ?_
  exact hret H locs ls 19 _ _ _ _ _ hw h rfl (show 0 ≤ 0 by omega) (show 0 ≤ 0 by omega) dX11_begin_19
def wp_X11_isNoArrow (μ : TMem) (a1 : Int32) (a2 : Int32) (a3 : Int32) (a4 : Int32) (Q : Int32 → TMem → Prop) : Prop :=
  wp_X11_isOne a1 (fun (r1 : Int32) => ∀ J2 : Int32 → Prop, (∀ (j3 : Int32), (wp_X11_isIn a3 (0 : Int32) (2 : Int32) (fun (r4 : Int32) => wp_X11_isThrown μ j3 r4 (fun (r6 : Int32) (μ5 : TMem) => isB r6 ∧ (Q r6 μ5)))) → J2 j3) → ((r1 = 0 → (J2 (0 : Int32))) ∧ (¬ r1 = 0 → (wp_X11_isState μ a1 a2 (fun (r11 : Int32) => (r11 = 0 → (J2 (0 : Int32))) ∧ (¬ r11 = 0 → (wp_X11_isState μ a1 a4 (fun (r15 : Int32) => (r15 = 0 → (J2 (0 : Int32))) ∧ (¬ r15 = 0 → (J2 (1 : Int32)))))))))))
set_option maxHeartbeats 4000000 in
set_option maxRecDepth 100000 in
theorem c_X11_isNoArrow {l : Launch} {D : va_G} {ad : Nat → Nat} {cI cL : ClassId}  (μ : TMem) (sz : Nat) (a1 : Int32) (a2 : Int32) (a3 : Int32) (a4 : Int32)  {Q : Int32 → TMem → Prop} (h : wp_X11_isNoArrow μ a1 a2 a3 a4 Q) : MMi l yX11_isNoArrow (.code yX11_isNoArrow cX11_isNoArrow 5 (Option.some Jvm.ClassFile.FieldType.boolean)) 2 0 0 [.ref (ad 0), .int a1, .int a2, .int a3, .int a4] D ad cI cL sz μ [] Q := by
  refine M_meti (by decide +kernel) (Nat.le_of_ble_eq_true rfl) ?_
  intro p e s m below meth c Z ls hx hb hml hown ht hK hP0 hI hne hw hret hl
  have hl : lv_has ls 5 [(0, .ref (ad 0)), (1, .int a1), (2, .int a2), (3, .int a3), (4, .int a4)] := hl
  suffices hh : ∀ (H : Heap) (locs : List Loc), MW D (MR ad cI μ) [] (MA ad s.heap.size) s H locs → W p l e (RA 2 0 0) s m #[.ref (ad 0), .int a1, .int a2, .int a3, .int a4] below meth c H locs 0 0 Z (F0 m 0 ls []) from hh _ _ hw
  intro H locs hw
  change wp_X11_isOne a1 (fun (r1 : Int32) => ∀ J2 : Int32 → Prop, (∀ (j3 : Int32), (wp_X11_isIn a3 (0 : Int32) (2 : Int32) (fun (r4 : Int32) => wp_X11_isThrown μ j3 r4 (fun (r6 : Int32) (μ5 : TMem) => isB r6 ∧ (Q r6 μ5)))) → J2 j3) → ((r1 = 0 → (J2 (0 : Int32))) ∧ (¬ r1 = 0 → (wp_X11_isState μ a1 a2 (fun (r11 : Int32) => (r11 = 0 → (J2 (0 : Int32))) ∧ (¬ r11 = 0 → (wp_X11_isState μ a1 a4 (fun (r15 : Int32) => (r15 = 0 → (J2 (0 : Int32))) ∧ (¬ r15 = 0 → (J2 (1 : Int32))))))))))) at h
  refine lv_aload_n hx hb dX11_isNoArrow_0 rfl (lv_at hl 0 rfl) ?_
  refine lv_iload_n hx hb dX11_isNoArrow_1 rfl (lv_at hl 1 rfl) ?_
  refine P_calli (va_runS (own := "LeastreaderModel") (As := [.int a1]) (rest := [.ref (ad 0)]) ⟨hx, hb, hml, hown, ht⟩ (c_X11_isOne a1 h) (va_cwS 1 ht (G_S q_1342 q_1343 q_56 q_1344) rfl rfl rfl hd_91 ⟨Nat.le_of_ble_eq_true rfl, Nat.le_of_ble_eq_true rfl⟩) ⟨PM_blind, PM_pre⟩ rfl rfl hl.1 rfl (lv_room (Nat.le_of_ble_eq_true rfl)) dX11_isNoArrow_2 ⟨show 0 + 0 ≤ 0 by omega, show 0 + 0 ≤ 0 by omega⟩) (fun r1 h => ?_)
  have h := h (fun (j3 : Int32) => ∀ (H : Heap) (locs : List Loc) (ls : Array Slot), MW D (MR ad cI μ) [] (MA ad s.heap.size) s H locs → lv_has ls 5 [(3, .int a3)] → W p l e (RA 2 0 0) s m #[.ref (ad 0), .int a1, .int a2, .int a3, .int a4] below meth c H locs 0 0 Z (F0 m 32 ls [.int j3, .ref (ad 0)])) (fun j3 h H locs ls hw hl => by
    refine lv_iload_n hx hb dX11_isNoArrow_32 rfl (lv_at hl 0 rfl) ?_
    refine lv_iconst (v := (0 : Int32)) hx hb dX11_isNoArrow_33 (by decide) ?_
    refine lv_iconst (v := (2 : Int32)) hx hb dX11_isNoArrow_34 (by decide) ?_
    refine P_calli (va_runS (own := "LeastreaderModel") (As := [.int a3, .int (0 : Int32), .int (2 : Int32)]) (rest := [.int j3, .ref (ad 0)]) ⟨hx, hb, hml, hown, ht⟩ (c_X11_isIn a3 (0 : Int32) (2 : Int32) h) (va_cwS 3 ht (G_S q_1345 q_1346 q_56 q_1347) rfl rfl rfl hd_78 ⟨Nat.le_of_ble_eq_true rfl, Nat.le_of_ble_eq_true rfl⟩) ⟨PM_blind, PM_pre⟩ rfl rfl hl.1 rfl (lv_room (Nat.le_of_ble_eq_true rfl)) dX11_isNoArrow_35 ⟨show 0 + 0 ≤ 0 by omega, show 0 + 0 ≤ 0 by omega⟩) (fun r4 h => ?_)
    refine M_calli hw (MA.up hw.2.2.1.1) (va_runV (own := "LeastreaderModel") (As := [.int j3, .int r4]) (rest := []) ⟨hx, hb, hml, hown, ht⟩ (c_X11_isThrown μ H.size j3 r4 h) (cwV 2 ht (G_V q_1348 q_1350 q_26 q_56 q_1351) rfl rfl rfl ⟨rfl, hd_92⟩ ⟨Nat.le_of_ble_eq_true rfl, Nat.le_of_ble_eq_true rfl⟩) ⟨MB.blind, M_recv hK hw, MB.pre hK hI hw va_P0 ne0⟩ rfl rfl hl.1 rfl (lv_room (Nat.le_of_ble_eq_true rfl)) dX11_isNoArrow_38 ⟨show 0 + 0 ≤ 0 by omega, show 0 + 0 ≤ 0 by omega⟩) (fun r6 μ5 H locs h hw => ?_)
    obtain ⟨z7, h⟩ := h
    exact hret H locs ls 41 _ _ _ _ _ hw h (isB_n z7) (show 0 ≤ 0 by omega) (show 0 ≤ 0 by omega) dX11_isNoArrow_41)
  refine lv_if_eq (tgt := 31) hx hb dX11_isNoArrow_5 (by decide) (fun c8 => ?_) (fun c8 => ?_)
  · have h := h.1 c8
    refine lv_iconst (v := (0 : Int32)) hx hb dX11_isNoArrow_31 (by decide) ?_
    exact h H locs ls hw (lv_sub hl [3] rfl)
  have h := h.2 c8
  refine lv_aload_n hx hb dX11_isNoArrow_8 rfl (lv_at hl 0 rfl) ?_
  refine lv_iload_n hx hb dX11_isNoArrow_9 rfl (lv_at hl 1 rfl) ?_
  refine lv_iload_n hx hb dX11_isNoArrow_10 rfl (lv_at hl 2 rfl) ?_
  refine M_calli hw (MA.up hw.2.2.1.1) (va_runV (own := "LeastreaderModel") (As := [.int a1, .int a2]) (rest := [.ref (ad 0)]) ⟨hx, hb, hml, hown, ht⟩ (c_X11_isState μ H.size a1 a2 h) (cwV 2 ht (G_V q_1376 q_1378 q_31 q_56 q_1379) rfl rfl rfl ⟨rfl, hd_96⟩ ⟨Nat.le_of_ble_eq_true rfl, Nat.le_of_ble_eq_true rfl⟩) ⟨MB.blind, M_recv hK hw, MB.pre hK hI hw va_P0 ne0⟩ rfl rfl hl.1 rfl (lv_room (Nat.le_of_ble_eq_true rfl)) dX11_isNoArrow_11 ⟨show 0 + 0 ≤ 0 by omega, show 0 + 0 ≤ 0 by omega⟩) (fun r11 μ9 H locs h hw => ?_)
  obtain ⟨e10, h⟩ := h
  rw [e10] at hw
  refine lv_if_eq (tgt := 31) hx hb dX11_isNoArrow_14 (by decide) (fun c12 => ?_) (fun c12 => ?_)
  · have h := h.1 c12
    refine lv_iconst (v := (0 : Int32)) hx hb dX11_isNoArrow_31 (by decide) ?_
    exact h H locs ls hw (lv_sub hl [3] rfl)
  have h := h.2 c12
  refine lv_aload_n hx hb dX11_isNoArrow_17 rfl (lv_at hl 0 rfl) ?_
  refine lv_iload_n hx hb dX11_isNoArrow_18 rfl (lv_at hl 1 rfl) ?_
  refine lv_iload hx hb dX11_isNoArrow_19 (lv_at hl 4 rfl) ?_
  refine M_calli hw (MA.up hw.2.2.1.1) (va_runV (own := "LeastreaderModel") (As := [.int a1, .int a4]) (rest := [.ref (ad 0)]) ⟨hx, hb, hml, hown, ht⟩ (c_X11_isState μ H.size a1 a4 h) (cwV 2 ht (G_V q_1376 q_1378 q_31 q_56 q_1379) rfl rfl rfl ⟨rfl, hd_96⟩ ⟨Nat.le_of_ble_eq_true rfl, Nat.le_of_ble_eq_true rfl⟩) ⟨MB.blind, M_recv hK hw, MB.pre hK hI hw va_P0 ne0⟩ rfl rfl hl.1 rfl (lv_room (Nat.le_of_ble_eq_true rfl)) dX11_isNoArrow_21 ⟨show 0 + 0 ≤ 0 by omega, show 0 + 0 ≤ 0 by omega⟩) (fun r15 μ13 H locs h hw => ?_)
  obtain ⟨e14, h⟩ := h
  rw [e14] at hw
  refine lv_if_eq (tgt := 31) hx hb dX11_isNoArrow_24 (by decide) (fun c16 => ?_) (fun c16 => ?_)
  · have h := h.1 c16
    refine lv_iconst (v := (0 : Int32)) hx hb dX11_isNoArrow_31 (by decide) ?_
    exact h H locs ls hw (lv_sub hl [3] rfl)
  have h := h.2 c16
  refine lv_iconst (v := (1 : Int32)) hx hb dX11_isNoArrow_27 (by decide) ?_
  refine lv_goto (tgt := 32) hx hb dX11_isNoArrow_28 (by decide) ?_
  exact h H locs ls hw (lv_sub hl [3] rfl)
def wp_X11_arrow (μ : TMem) (a1 : Int32) (a2 : Int32) (a3 : Int32) (a4 : Int32) (a5 : Int32) (Q : Int32 → TMem → Prop) : Prop :=
  wp_X11_isNoArrow μ a1 a2 a3 a4 (fun (r2 : Int32) (μ1 : TMem) => (r2 = 0 → (wp_X11_key a1 a2 a3 (fun (r4 : Int32) => vp_in r4 (ml 4) ∧ (∀ J6 : Int32 → Prop, (∀ (j7 : Int32), (vp_in r4 (ml 4) ∧ (vp_in r4 (ml 4) ∧ ((¬ (μ1 4 r4.toNatClampNeg) = ((tms μ1 4 r4.toNatClampNeg j7) 4 r4.toNatClampNeg) → (wp_X11_did (tms μ1 4 r4.toNatClampNeg j7) (1 : Int32) (fun (r12 : Int32) (μ11 : TMem) => Q r12 μ11))) ∧ ((μ1 4 r4.toNatClampNeg) = ((tms μ1 4 r4.toNatClampNeg j7) 4 r4.toNatClampNeg) → (wp_X11_did (tms μ1 4 r4.toNatClampNeg j7) (0 : Int32) (fun (r14 : Int32) (μ13 : TMem) => Q r14 μ13)))))) → J6 j7) → ((a5 = 0 → (J6 ((μ1 4 r4.toNatClampNeg) &&& (((1 : Int32) <<< (a4 &&& 31)) ^^^ (-1 : Int32))))) ∧ (¬ a5 = 0 → (J6 ((μ1 4 r4.toNatClampNeg) ||| ((1 : Int32) <<< (a4 &&& 31)))))))))) ∧ (¬ r2 = 0 → (Q (0 : Int32) μ1)))
set_option maxHeartbeats 4000000 in
set_option maxRecDepth 100000 in
theorem c_X11_arrow {l : Launch} {D : va_G} {ad : Nat → Nat} {cI cL : ClassId}  (μ : TMem) (sz : Nat) (a1 : Int32) (a2 : Int32) (a3 : Int32) (a4 : Int32) (a5 : Int32)  {Q : Int32 → TMem → Prop} (h : wp_X11_arrow μ a1 a2 a3 a4 a5 Q) : MMi l yX11_arrow (.code yX11_arrow cX11_arrow 8 (Option.some Jvm.ClassFile.FieldType.int)) 3 0 0 [.ref (ad 0), .int a1, .int a2, .int a3, .int a4, .int a5] D ad cI cL sz μ [] Q := by
  refine M_meti (by decide +kernel) (Nat.le_of_ble_eq_true rfl) ?_
  intro p e s m below meth c Z ls hx hb hml hown ht hK hP0 hI hne hw hret hl
  have hl : lv_has ls 8 [(0, .ref (ad 0)), (1, .int a1), (2, .int a2), (3, .int a3), (4, .int a4), (5, .int a5)] := hl
  suffices hh : ∀ (H : Heap) (locs : List Loc), MW D (MR ad cI μ) [] (MA ad s.heap.size) s H locs → W p l e (RA 3 0 0) s m #[.ref (ad 0), .int a1, .int a2, .int a3, .int a4, .int a5] below meth c H locs 0 0 Z (F0 m 0 ls []) from hh _ _ hw
  intro H locs hw
  change wp_X11_isNoArrow μ a1 a2 a3 a4 (fun (r2 : Int32) (μ1 : TMem) => (r2 = 0 → (wp_X11_key a1 a2 a3 (fun (r4 : Int32) => vp_in r4 (ml 4) ∧ (∀ J6 : Int32 → Prop, (∀ (j7 : Int32), (vp_in r4 (ml 4) ∧ (vp_in r4 (ml 4) ∧ ((¬ (μ1 4 r4.toNatClampNeg) = ((tms μ1 4 r4.toNatClampNeg j7) 4 r4.toNatClampNeg) → (wp_X11_did (tms μ1 4 r4.toNatClampNeg j7) (1 : Int32) (fun (r12 : Int32) (μ11 : TMem) => Q r12 μ11))) ∧ ((μ1 4 r4.toNatClampNeg) = ((tms μ1 4 r4.toNatClampNeg j7) 4 r4.toNatClampNeg) → (wp_X11_did (tms μ1 4 r4.toNatClampNeg j7) (0 : Int32) (fun (r14 : Int32) (μ13 : TMem) => Q r14 μ13)))))) → J6 j7) → ((a5 = 0 → (J6 ((μ1 4 r4.toNatClampNeg) &&& (((1 : Int32) <<< (a4 &&& 31)) ^^^ (-1 : Int32))))) ∧ (¬ a5 = 0 → (J6 ((μ1 4 r4.toNatClampNeg) ||| ((1 : Int32) <<< (a4 &&& 31)))))))))) ∧ (¬ r2 = 0 → (Q (0 : Int32) μ1))) at h
  refine lv_aload_n hx hb dX11_arrow_0 rfl (lv_at hl 0 rfl) ?_
  refine lv_iload_n hx hb dX11_arrow_1 rfl (lv_at hl 1 rfl) ?_
  refine lv_iload_n hx hb dX11_arrow_2 rfl (lv_at hl 2 rfl) ?_
  refine lv_iload_n hx hb dX11_arrow_3 rfl (lv_at hl 3 rfl) ?_
  refine lv_iload hx hb dX11_arrow_4 (lv_at hl 4 rfl) ?_
  refine M_calli hw (MA.up hw.2.2.1.1) (va_runV (own := "LeastreaderModel") (As := [.int a1, .int a2, .int a3, .int a4]) (rest := []) ⟨hx, hb, hml, hown, ht⟩ (c_X11_isNoArrow μ H.size a1 a2 a3 a4 h) (cwV 4 ht (G_V q_1372 q_1374 q_30 q_56 q_1375) rfl rfl rfl ⟨rfl, hd_97⟩ ⟨Nat.le_of_ble_eq_true rfl, Nat.le_of_ble_eq_true rfl⟩) ⟨MB.blind, M_recv hK hw, MB.pre hK hI hw va_P0 ne0⟩ rfl rfl hl.1 rfl (lv_room (Nat.le_of_ble_eq_true rfl)) dX11_arrow_6 ⟨show 0 + 0 ≤ 0 by omega, show 0 + 0 ≤ 0 by omega⟩) (fun r2 μ1 H locs h hw => ?_)
  refine lv_if_eq (tgt := 14) hx hb dX11_arrow_9 (by decide) (fun c3 => ?_) (fun c3 => ?_)
  · have h := h.1 c3
    refine lv_iload_n hx hb dX11_arrow_14 rfl (lv_at hl 1 rfl) ?_
    refine lv_iload_n hx hb dX11_arrow_15 rfl (lv_at hl 2 rfl) ?_
    refine lv_iload_n hx hb dX11_arrow_16 rfl (lv_at hl 3 rfl) ?_
    refine P_calli (va_runS (own := "LeastreaderModel") (As := [.int a1, .int a2, .int a3]) (rest := []) ⟨hx, hb, hml, hown, ht⟩ (c_X11_key a1 a2 a3 h) (va_cwS 3 ht (G_S q_1356 q_1357 q_56 q_1358) rfl rfl rfl hd_79 ⟨Nat.le_of_ble_eq_true rfl, Nat.le_of_ble_eq_true rfl⟩) ⟨PM_blind, PM_pre⟩ rfl rfl hl.1 rfl (lv_room (Nat.le_of_ble_eq_true rfl)) dX11_arrow_17 ⟨show 0 + 0 ≤ 0 by omega, show 0 + 0 ≤ 0 by omega⟩) (fun r4 h => ?_)
    refine lv_istore (lv' := [(6, .int r4), (0, .ref (ad 0)), (1, .int a1), (2, .int a2), (3, .int a3), (4, .int a4), (5, .int a5)]) hx hb dX11_arrow_20 hl (by decide) rfl (fun ls hl => ?_)
    refine lv_aload_n hx hb dX11_arrow_22 rfl (lv_at hl 1 rfl) ?_
    refine m_get (i := 3) hx hb ht hown hK hw (by decide) (ht _ q_1316) rfl rfl dX11_arrow_23 ?_
    refine lv_iload hx hb dX11_arrow_26 (lv_at hl 0 rfl) ?_
    obtain ⟨z5, h⟩ := h
    refine m_iald hx hb hK hw (by decide) z5 dX11_arrow_28 ?_
    refine lv_istore (lv' := [(7, .int (μ1 4 r4.toNatClampNeg)), (6, .int r4), (0, .ref (ad 0)), (1, .int a1), (2, .int a2), (3, .int a3), (4, .int a4), (5, .int a5)]) hx hb dX11_arrow_29 hl (by decide) rfl (fun ls hl => ?_)
    refine lv_aload_n hx hb dX11_arrow_31 rfl (lv_at hl 2 rfl) ?_
    refine m_get (i := 3) hx hb ht hown hK hw (by decide) (ht _ q_1316) rfl rfl dX11_arrow_32 ?_
    refine lv_iload hx hb dX11_arrow_35 (lv_at hl 1 rfl) ?_
    refine lv_iload hx hb dX11_arrow_37 (lv_at hl 7 rfl) ?_
    have h := h (fun (j7 : Int32) => ∀ (H : Heap) (locs : List Loc) (ls : Array Slot), MW D (MR ad cI μ1) [] (MA ad s.heap.size) s H locs → lv_has ls 8 [(7, .int (μ1 4 r4.toNatClampNeg)), (6, .int r4), (0, .ref (ad 0))] → W p l e (RA 3 0 0) s m #[.ref (ad 0), .int a1, .int a2, .int a3, .int a4, .int a5] below meth c H locs 0 0 Z (F0 m 61 ls [.int j7, .int r4, .ref (ad 4)])) (fun j7 h H locs ls hw hl => by
      obtain ⟨z8, h⟩ := h
      refine m_iast hx hb hK hw (by decide) z8 dX11_arrow_61 (fun H locs hw => ?_)
      refine lv_aload_n hx hb dX11_arrow_62 rfl (lv_at hl 2 rfl) ?_
      refine lv_iload hx hb dX11_arrow_63 (lv_at hl 0 rfl) ?_
      refine lv_aload_n hx hb dX11_arrow_65 rfl (lv_at hl 2 rfl) ?_
      refine m_get (i := 3) hx hb ht hown hK hw (by decide) (ht _ q_1316) rfl rfl dX11_arrow_66 ?_
      refine lv_iload hx hb dX11_arrow_69 (lv_at hl 1 rfl) ?_
      obtain ⟨z9, h⟩ := h
      refine m_iald hx hb hK hw (by decide) z9 dX11_arrow_71 ?_
      refine lv_icmp_ne (tgt := 79) hx hb dX11_arrow_72 (by decide) (fun c10 => ?_) (fun c10 => ?_)
      · have h := h.1 c10
        refine lv_iconst (v := (1 : Int32)) hx hb dX11_arrow_79 (by decide) ?_
        refine M_calli hw (MA.up hw.2.2.1.1) (va_runV (own := "LeastreaderModel") (As := [.int (1 : Int32)]) (rest := []) ⟨hx, hb, hml, hown, ht⟩ (c_X11_did (tms μ1 4 r4.toNatClampNeg j7) H.size (1 : Int32) h) (cwV 1 ht (G_V q_1364 q_1366 q_29 q_56 q_1367) rfl rfl rfl ⟨rfl, hd_95⟩ ⟨Nat.le_of_ble_eq_true rfl, Nat.le_of_ble_eq_true rfl⟩) ⟨MB.blind, M_recv hK hw, MB.pre hK hI hw va_P0 ne0⟩ rfl rfl hl.1 rfl (lv_room (Nat.le_of_ble_eq_true rfl)) dX11_arrow_80 ⟨show 0 + 0 ≤ 0 by omega, show 0 + 0 ≤ 0 by omega⟩) (fun r12 μ11 H locs h hw => ?_)
        exact hret H locs ls 83 _ _ _ _ _ hw h rfl (show 0 ≤ 0 by omega) (show 0 ≤ 0 by omega) dX11_arrow_83
      have h := h.2 c10
      refine lv_iconst (v := (0 : Int32)) hx hb dX11_arrow_75 (by decide) ?_
      refine lv_goto (tgt := 80) hx hb dX11_arrow_76 (by decide) ?_
      refine M_calli hw (MA.up hw.2.2.1.1) (va_runV (own := "LeastreaderModel") (As := [.int (0 : Int32)]) (rest := []) ⟨hx, hb, hml, hown, ht⟩ (c_X11_did (tms μ1 4 r4.toNatClampNeg j7) H.size (0 : Int32) h) (cwV 1 ht (G_V q_1364 q_1366 q_29 q_56 q_1367) rfl rfl rfl ⟨rfl, hd_95⟩ ⟨Nat.le_of_ble_eq_true rfl, Nat.le_of_ble_eq_true rfl⟩) ⟨MB.blind, M_recv hK hw, MB.pre hK hI hw va_P0 ne0⟩ rfl rfl hl.1 rfl (lv_room (Nat.le_of_ble_eq_true rfl)) dX11_arrow_80 ⟨show 0 + 0 ≤ 0 by omega, show 0 + 0 ≤ 0 by omega⟩) (fun r14 μ13 H locs h hw => ?_)
      exact hret H locs ls 83 _ _ _ _ _ hw h rfl (show 0 ≤ 0 by omega) (show 0 ≤ 0 by omega) dX11_arrow_83)
    refine lv_if_eq (tgt := 52) hx hb dX11_arrow_39 (by decide) (fun c15 => ?_) (fun c15 => ?_)
    · have h := h.1 c15
      refine lv_iload hx hb dX11_arrow_52 (lv_at hl 0 rfl) ?_
      refine lv_iconst (v := (1 : Int32)) hx hb dX11_arrow_54 (by decide) ?_
      refine lv_iload hx hb dX11_arrow_55 (lv_at hl 6 rfl) ?_
      refine lv_ishl hx hb dX11_arrow_57 ?_
      refine lv_iconst (v := (-1 : Int32)) hx hb dX11_arrow_58 (by decide) ?_
      refine lv_ixor hx hb dX11_arrow_59 ?_
      refine lv_iand hx hb dX11_arrow_60 ?_
      exact h H locs ls hw (lv_sub hl [0, 1, 2] rfl)
    have h := h.2 c15
    refine lv_iload hx hb dX11_arrow_42 (lv_at hl 0 rfl) ?_
    refine lv_iconst (v := (1 : Int32)) hx hb dX11_arrow_44 (by decide) ?_
    refine lv_iload hx hb dX11_arrow_45 (lv_at hl 6 rfl) ?_
    refine lv_ishl hx hb dX11_arrow_47 ?_
    refine lv_ior hx hb dX11_arrow_48 ?_
    refine lv_goto (tgt := 61) hx hb dX11_arrow_49 (by decide) ?_
    exact h H locs ls hw (lv_sub hl [0, 1, 2] rfl)
  have h := h.2 c3
  refine lv_iconst (v := (0 : Int32)) hx hb dX11_arrow_12 (by decide) ?_
  exact hret H locs ls 13 _ _ _ _ _ hw h rfl (show 0 ≤ 0 by omega) (show 0 ≤ 0 by omega) dX11_arrow_13
def wp_X11_lead (μ : TMem) (a1 : Int32) (a2 : Int32) (a3 : Int32) (a4 : Int32) (Q : Int32 → TMem → Prop) : Prop :=
  wp_X11_isNoArrow μ a1 a2 a3 a4 (fun (r2 : Int32) (μ1 : TMem) => (r2 = 0 → (wp_X11_key a1 a2 a3 (fun (r4 : Int32) => vp_in r4 (ml 4) ∧ (vp_in r4 (ml 4) ∧ (wp_J6_bitCount_0f7a4 (μ1 4 r4.toNatClampNeg) (fun (r7 : Int32) => wp_X11_did (tms μ1 4 r4.toNatClampNeg ((1 : Int32) <<< (a4 &&& 31))) r7 (fun (r9 : Int32) (μ8 : TMem) => Q r9 μ8))))))) ∧ (¬ r2 = 0 → (Q (0 : Int32) μ1)))
set_option maxHeartbeats 4000000 in
set_option maxRecDepth 100000 in
theorem c_X11_lead {l : Launch} {D : va_G} {ad : Nat → Nat} {cI cL : ClassId}  (μ : TMem) (sz : Nat) (a1 : Int32) (a2 : Int32) (a3 : Int32) (a4 : Int32)  {Q : Int32 → TMem → Prop} (h : wp_X11_lead μ a1 a2 a3 a4 Q) : MMi l yX11_lead (.code yX11_lead cX11_lead 7 (Option.some Jvm.ClassFile.FieldType.int)) 3 0 0 [.ref (ad 0), .int a1, .int a2, .int a3, .int a4] D ad cI cL sz μ [] Q := by
  refine M_meti (by decide +kernel) (Nat.le_of_ble_eq_true rfl) ?_
  intro p e s m below meth c Z ls hx hb hml hown ht hK hP0 hI hne hw hret hl
  have hl : lv_has ls 7 [(0, .ref (ad 0)), (1, .int a1), (2, .int a2), (3, .int a3), (4, .int a4)] := hl
  suffices hh : ∀ (H : Heap) (locs : List Loc), MW D (MR ad cI μ) [] (MA ad s.heap.size) s H locs → W p l e (RA 3 0 0) s m #[.ref (ad 0), .int a1, .int a2, .int a3, .int a4] below meth c H locs 0 0 Z (F0 m 0 ls []) from hh _ _ hw
  intro H locs hw
  change wp_X11_isNoArrow μ a1 a2 a3 a4 (fun (r2 : Int32) (μ1 : TMem) => (r2 = 0 → (wp_X11_key a1 a2 a3 (fun (r4 : Int32) => vp_in r4 (ml 4) ∧ (vp_in r4 (ml 4) ∧ (wp_J6_bitCount_0f7a4 (μ1 4 r4.toNatClampNeg) (fun (r7 : Int32) => wp_X11_did (tms μ1 4 r4.toNatClampNeg ((1 : Int32) <<< (a4 &&& 31))) r7 (fun (r9 : Int32) (μ8 : TMem) => Q r9 μ8))))))) ∧ (¬ r2 = 0 → (Q (0 : Int32) μ1))) at h
  refine lv_aload_n hx hb dX11_lead_0 rfl (lv_at hl 0 rfl) ?_
  refine lv_iload_n hx hb dX11_lead_1 rfl (lv_at hl 1 rfl) ?_
  refine lv_iload_n hx hb dX11_lead_2 rfl (lv_at hl 2 rfl) ?_
  refine lv_iload_n hx hb dX11_lead_3 rfl (lv_at hl 3 rfl) ?_
  refine lv_iload hx hb dX11_lead_4 (lv_at hl 4 rfl) ?_
  refine M_calli hw (MA.up hw.2.2.1.1) (va_runV (own := "LeastreaderModel") (As := [.int a1, .int a2, .int a3, .int a4]) (rest := []) ⟨hx, hb, hml, hown, ht⟩ (c_X11_isNoArrow μ H.size a1 a2 a3 a4 h) (cwV 4 ht (G_V q_1372 q_1374 q_30 q_56 q_1375) rfl rfl rfl ⟨rfl, hd_97⟩ ⟨Nat.le_of_ble_eq_true rfl, Nat.le_of_ble_eq_true rfl⟩) ⟨MB.blind, M_recv hK hw, MB.pre hK hI hw va_P0 ne0⟩ rfl rfl hl.1 rfl (lv_room (Nat.le_of_ble_eq_true rfl)) dX11_lead_6 ⟨show 0 + 0 ≤ 0 by omega, show 0 + 0 ≤ 0 by omega⟩) (fun r2 μ1 H locs h hw => ?_)
  refine lv_if_eq (tgt := 14) hx hb dX11_lead_9 (by decide) (fun c3 => ?_) (fun c3 => ?_)
  · have h := h.1 c3
    refine lv_iload_n hx hb dX11_lead_14 rfl (lv_at hl 1 rfl) ?_
    refine lv_iload_n hx hb dX11_lead_15 rfl (lv_at hl 2 rfl) ?_
    refine lv_iload_n hx hb dX11_lead_16 rfl (lv_at hl 3 rfl) ?_
    refine P_calli (va_runS (own := "LeastreaderModel") (As := [.int a1, .int a2, .int a3]) (rest := []) ⟨hx, hb, hml, hown, ht⟩ (c_X11_key a1 a2 a3 h) (va_cwS 3 ht (G_S q_1356 q_1357 q_56 q_1358) rfl rfl rfl hd_79 ⟨Nat.le_of_ble_eq_true rfl, Nat.le_of_ble_eq_true rfl⟩) ⟨PM_blind, PM_pre⟩ rfl rfl hl.1 rfl (lv_room (Nat.le_of_ble_eq_true rfl)) dX11_lead_17 ⟨show 0 + 0 ≤ 0 by omega, show 0 + 0 ≤ 0 by omega⟩) (fun r4 h => ?_)
    refine lv_istore (lv' := [(5, .int r4), (0, .ref (ad 0)), (1, .int a1), (2, .int a2), (3, .int a3), (4, .int a4)]) hx hb dX11_lead_20 hl (by decide) rfl (fun ls hl => ?_)
    refine lv_aload_n hx hb dX11_lead_22 rfl (lv_at hl 1 rfl) ?_
    refine m_get (i := 3) hx hb ht hown hK hw (by decide) (ht _ q_1316) rfl rfl dX11_lead_23 ?_
    refine lv_iload hx hb dX11_lead_26 (lv_at hl 0 rfl) ?_
    obtain ⟨z5, h⟩ := h
    refine m_iald hx hb hK hw (by decide) z5 dX11_lead_28 ?_
    refine lv_istore (lv' := [(6, .int (μ1 4 r4.toNatClampNeg)), (5, .int r4), (0, .ref (ad 0)), (1, .int a1), (2, .int a2), (3, .int a3), (4, .int a4)]) hx hb dX11_lead_29 hl (by decide) rfl (fun ls hl => ?_)
    refine lv_aload_n hx hb dX11_lead_31 rfl (lv_at hl 2 rfl) ?_
    refine m_get (i := 3) hx hb ht hown hK hw (by decide) (ht _ q_1316) rfl rfl dX11_lead_32 ?_
    refine lv_iload hx hb dX11_lead_35 (lv_at hl 1 rfl) ?_
    refine lv_iconst (v := (1 : Int32)) hx hb dX11_lead_37 (by decide) ?_
    refine lv_iload hx hb dX11_lead_38 (lv_at hl 6 rfl) ?_
    refine lv_ishl hx hb dX11_lead_40 ?_
    obtain ⟨z6, h⟩ := h
    refine m_iast hx hb hK hw (by decide) z6 dX11_lead_41 (fun H locs hw => ?_)
    refine lv_aload_n hx hb dX11_lead_42 rfl (lv_at hl 2 rfl) ?_
    refine lv_iload hx hb dX11_lead_43 (lv_at hl 0 rfl) ?_
    refine P_calli (va_runS (own := "LeastreaderModel") (As := [.int (μ1 4 r4.toNatClampNeg)]) (rest := [.ref (ad 0)]) ⟨hx, hb, hml, hown, ht⟩ (c_J6_bitCount_0f7a4 (μ1 4 r4.toNatClampNeg) h) (va_cwS 1 ht (G_S q_1359 q_564 q_63 q_565) rfl rfl rfl hd_33 ⟨Nat.le_of_ble_eq_true rfl, Nat.le_of_ble_eq_true rfl⟩) ⟨PM_blind, PM_pre⟩ rfl rfl hl.1 rfl (lv_room (Nat.le_of_ble_eq_true rfl)) dX11_lead_45 ⟨show 0 + 0 ≤ 0 by omega, show 0 + 0 ≤ 0 by omega⟩) (fun r7 h => ?_)
    refine M_calli hw (MA.up hw.2.2.1.1) (va_runV (own := "LeastreaderModel") (As := [.int r7]) (rest := []) ⟨hx, hb, hml, hown, ht⟩ (c_X11_did (tms μ1 4 r4.toNatClampNeg ((1 : Int32) <<< (a4 &&& 31))) H.size r7 h) (cwV 1 ht (G_V q_1364 q_1366 q_29 q_56 q_1367) rfl rfl rfl ⟨rfl, hd_95⟩ ⟨Nat.le_of_ble_eq_true rfl, Nat.le_of_ble_eq_true rfl⟩) ⟨MB.blind, M_recv hK hw, MB.pre hK hI hw va_P0 ne0⟩ rfl rfl hl.1 rfl (lv_room (Nat.le_of_ble_eq_true rfl)) dX11_lead_48 ⟨show 0 + 0 ≤ 0 by omega, show 0 + 0 ≤ 0 by omega⟩) (fun r9 μ8 H locs h hw => ?_)
    exact hret H locs ls 51 _ _ _ _ _ hw h rfl (show 0 ≤ 0 by omega) (show 0 ≤ 0 by omega) dX11_lead_51
  have h := h.2 c3
  refine lv_iconst (v := (0 : Int32)) hx hb dX11_lead_12 (by decide) ?_
  exact hret H locs ls 13 _ _ _ _ _ hw h rfl (show 0 ≤ 0 by omega) (show 0 ≤ 0 by omega) dX11_lead_13
def wp_X11_mark (μ : TMem) (a1 : Int32) (a2 : Int32) (a3 : Int32) (a4 : Int32) (Q : Int32 → TMem → Prop) : Prop :=
  wp_X11_isOne a1 (fun (r1 : Int32) => (r1 = 0 → (wp_X11_isThrown μ (0 : Int32) (1 : Int32) (fun (r4 : Int32) (μ3 : TMem) => (r4 = 0 → ((a3 = 0 → (vp_in a1 (ml 2) ∧ ((a4 = 0 → (vp_in a1 (ml 2) ∧ (vp_in a1 (ml 2) ∧ ((¬ (μ3 2 a1.toNatClampNeg) = ((tms μ3 2 a1.toNatClampNeg ((μ3 2 a1.toNatClampNeg) &&& (((1 : Int32) <<< (a2 &&& 31)) ^^^ (-1 : Int32)))) 2 a1.toNatClampNeg) → (wp_X11_did (tms μ3 2 a1.toNatClampNeg ((μ3 2 a1.toNatClampNeg) &&& (((1 : Int32) <<< (a2 &&& 31)) ^^^ (-1 : Int32)))) (1 : Int32) (fun (r13 : Int32) (μ12 : TMem) => Q r13 μ12))) ∧ ((μ3 2 a1.toNatClampNeg) = ((tms μ3 2 a1.toNatClampNeg ((μ3 2 a1.toNatClampNeg) &&& (((1 : Int32) <<< (a2 &&& 31)) ^^^ (-1 : Int32)))) 2 a1.toNatClampNeg) → (wp_X11_did (tms μ3 2 a1.toNatClampNeg ((μ3 2 a1.toNatClampNeg) &&& (((1 : Int32) <<< (a2 &&& 31)) ^^^ (-1 : Int32)))) (0 : Int32) (fun (r15 : Int32) (μ14 : TMem) => Q r15 μ14))))))) ∧ (¬ a4 = 0 → (vp_in a1 (ml 2) ∧ (vp_in a1 (ml 2) ∧ ((¬ (μ3 2 a1.toNatClampNeg) = ((tms μ3 2 a1.toNatClampNeg ((μ3 2 a1.toNatClampNeg) ||| ((1 : Int32) <<< (a2 &&& 31)))) 2 a1.toNatClampNeg) → (wp_X11_did (tms μ3 2 a1.toNatClampNeg ((μ3 2 a1.toNatClampNeg) ||| ((1 : Int32) <<< (a2 &&& 31)))) (1 : Int32) (fun (r20 : Int32) (μ19 : TMem) => Q r20 μ19))) ∧ ((μ3 2 a1.toNatClampNeg) = ((tms μ3 2 a1.toNatClampNeg ((μ3 2 a1.toNatClampNeg) ||| ((1 : Int32) <<< (a2 &&& 31)))) 2 a1.toNatClampNeg) → (wp_X11_did (tms μ3 2 a1.toNatClampNeg ((μ3 2 a1.toNatClampNeg) ||| ((1 : Int32) <<< (a2 &&& 31)))) (0 : Int32) (fun (r22 : Int32) (μ21 : TMem) => Q r22 μ21)))))))))) ∧ (¬ a3 = 0 → (vp_in a1 (ml 3) ∧ ((a4 = 0 → (vp_in a1 (ml 3) ∧ (vp_in a1 (ml 3) ∧ ((¬ (μ3 3 a1.toNatClampNeg) = ((tms μ3 3 a1.toNatClampNeg ((μ3 3 a1.toNatClampNeg) &&& (((1 : Int32) <<< (a2 &&& 31)) ^^^ (-1 : Int32)))) 3 a1.toNatClampNeg) → (wp_X11_did (tms μ3 3 a1.toNatClampNeg ((μ3 3 a1.toNatClampNeg) &&& (((1 : Int32) <<< (a2 &&& 31)) ^^^ (-1 : Int32)))) (1 : Int32) (fun (r29 : Int32) (μ28 : TMem) => Q r29 μ28))) ∧ ((μ3 3 a1.toNatClampNeg) = ((tms μ3 3 a1.toNatClampNeg ((μ3 3 a1.toNatClampNeg) &&& (((1 : Int32) <<< (a2 &&& 31)) ^^^ (-1 : Int32)))) 3 a1.toNatClampNeg) → (wp_X11_did (tms μ3 3 a1.toNatClampNeg ((μ3 3 a1.toNatClampNeg) &&& (((1 : Int32) <<< (a2 &&& 31)) ^^^ (-1 : Int32)))) (0 : Int32) (fun (r31 : Int32) (μ30 : TMem) => Q r31 μ30))))))) ∧ (¬ a4 = 0 → (vp_in a1 (ml 3) ∧ (vp_in a1 (ml 3) ∧ ((¬ (μ3 3 a1.toNatClampNeg) = ((tms μ3 3 a1.toNatClampNeg ((μ3 3 a1.toNatClampNeg) ||| ((1 : Int32) <<< (a2 &&& 31)))) 3 a1.toNatClampNeg) → (wp_X11_did (tms μ3 3 a1.toNatClampNeg ((μ3 3 a1.toNatClampNeg) ||| ((1 : Int32) <<< (a2 &&& 31)))) (1 : Int32) (fun (r36 : Int32) (μ35 : TMem) => Q r36 μ35))) ∧ ((μ3 3 a1.toNatClampNeg) = ((tms μ3 3 a1.toNatClampNeg ((μ3 3 a1.toNatClampNeg) ||| ((1 : Int32) <<< (a2 &&& 31)))) 3 a1.toNatClampNeg) → (wp_X11_did (tms μ3 3 a1.toNatClampNeg ((μ3 3 a1.toNatClampNeg) ||| ((1 : Int32) <<< (a2 &&& 31)))) (0 : Int32) (fun (r38 : Int32) (μ37 : TMem) => Q r38 μ37)))))))))))) ∧ (¬ r4 = 0 → (Q (0 : Int32) μ3))))) ∧ (¬ r1 = 0 → (wp_X11_isState μ a1 a2 (fun (r41 : Int32) => (r41 = 0 → (wp_X11_isThrown μ (0 : Int32) (1 : Int32) (fun (r44 : Int32) (μ43 : TMem) => (r44 = 0 → ((a3 = 0 → (vp_in a1 (ml 2) ∧ ((a4 = 0 → (vp_in a1 (ml 2) ∧ (vp_in a1 (ml 2) ∧ ((¬ (μ43 2 a1.toNatClampNeg) = ((tms μ43 2 a1.toNatClampNeg ((μ43 2 a1.toNatClampNeg) &&& (((1 : Int32) <<< (a2 &&& 31)) ^^^ (-1 : Int32)))) 2 a1.toNatClampNeg) → (wp_X11_did (tms μ43 2 a1.toNatClampNeg ((μ43 2 a1.toNatClampNeg) &&& (((1 : Int32) <<< (a2 &&& 31)) ^^^ (-1 : Int32)))) (1 : Int32) (fun (r53 : Int32) (μ52 : TMem) => Q r53 μ52))) ∧ ((μ43 2 a1.toNatClampNeg) = ((tms μ43 2 a1.toNatClampNeg ((μ43 2 a1.toNatClampNeg) &&& (((1 : Int32) <<< (a2 &&& 31)) ^^^ (-1 : Int32)))) 2 a1.toNatClampNeg) → (wp_X11_did (tms μ43 2 a1.toNatClampNeg ((μ43 2 a1.toNatClampNeg) &&& (((1 : Int32) <<< (a2 &&& 31)) ^^^ (-1 : Int32)))) (0 : Int32) (fun (r55 : Int32) (μ54 : TMem) => Q r55 μ54))))))) ∧ (¬ a4 = 0 → (vp_in a1 (ml 2) ∧ (vp_in a1 (ml 2) ∧ ((¬ (μ43 2 a1.toNatClampNeg) = ((tms μ43 2 a1.toNatClampNeg ((μ43 2 a1.toNatClampNeg) ||| ((1 : Int32) <<< (a2 &&& 31)))) 2 a1.toNatClampNeg) → (wp_X11_did (tms μ43 2 a1.toNatClampNeg ((μ43 2 a1.toNatClampNeg) ||| ((1 : Int32) <<< (a2 &&& 31)))) (1 : Int32) (fun (r60 : Int32) (μ59 : TMem) => Q r60 μ59))) ∧ ((μ43 2 a1.toNatClampNeg) = ((tms μ43 2 a1.toNatClampNeg ((μ43 2 a1.toNatClampNeg) ||| ((1 : Int32) <<< (a2 &&& 31)))) 2 a1.toNatClampNeg) → (wp_X11_did (tms μ43 2 a1.toNatClampNeg ((μ43 2 a1.toNatClampNeg) ||| ((1 : Int32) <<< (a2 &&& 31)))) (0 : Int32) (fun (r62 : Int32) (μ61 : TMem) => Q r62 μ61)))))))))) ∧ (¬ a3 = 0 → (vp_in a1 (ml 3) ∧ ((a4 = 0 → (vp_in a1 (ml 3) ∧ (vp_in a1 (ml 3) ∧ ((¬ (μ43 3 a1.toNatClampNeg) = ((tms μ43 3 a1.toNatClampNeg ((μ43 3 a1.toNatClampNeg) &&& (((1 : Int32) <<< (a2 &&& 31)) ^^^ (-1 : Int32)))) 3 a1.toNatClampNeg) → (wp_X11_did (tms μ43 3 a1.toNatClampNeg ((μ43 3 a1.toNatClampNeg) &&& (((1 : Int32) <<< (a2 &&& 31)) ^^^ (-1 : Int32)))) (1 : Int32) (fun (r69 : Int32) (μ68 : TMem) => Q r69 μ68))) ∧ ((μ43 3 a1.toNatClampNeg) = ((tms μ43 3 a1.toNatClampNeg ((μ43 3 a1.toNatClampNeg) &&& (((1 : Int32) <<< (a2 &&& 31)) ^^^ (-1 : Int32)))) 3 a1.toNatClampNeg) → (wp_X11_did (tms μ43 3 a1.toNatClampNeg ((μ43 3 a1.toNatClampNeg) &&& (((1 : Int32) <<< (a2 &&& 31)) ^^^ (-1 : Int32)))) (0 : Int32) (fun (r71 : Int32) (μ70 : TMem) => Q r71 μ70))))))) ∧ (¬ a4 = 0 → (vp_in a1 (ml 3) ∧ (vp_in a1 (ml 3) ∧ ((¬ (μ43 3 a1.toNatClampNeg) = ((tms μ43 3 a1.toNatClampNeg ((μ43 3 a1.toNatClampNeg) ||| ((1 : Int32) <<< (a2 &&& 31)))) 3 a1.toNatClampNeg) → (wp_X11_did (tms μ43 3 a1.toNatClampNeg ((μ43 3 a1.toNatClampNeg) ||| ((1 : Int32) <<< (a2 &&& 31)))) (1 : Int32) (fun (r76 : Int32) (μ75 : TMem) => Q r76 μ75))) ∧ ((μ43 3 a1.toNatClampNeg) = ((tms μ43 3 a1.toNatClampNeg ((μ43 3 a1.toNatClampNeg) ||| ((1 : Int32) <<< (a2 &&& 31)))) 3 a1.toNatClampNeg) → (wp_X11_did (tms μ43 3 a1.toNatClampNeg ((μ43 3 a1.toNatClampNeg) ||| ((1 : Int32) <<< (a2 &&& 31)))) (0 : Int32) (fun (r78 : Int32) (μ77 : TMem) => Q r78 μ77)))))))))))) ∧ (¬ r44 = 0 → (Q (0 : Int32) μ43))))) ∧ (¬ r41 = 0 → (wp_X11_isThrown μ (1 : Int32) (1 : Int32) (fun (r80 : Int32) (μ79 : TMem) => (r80 = 0 → ((a3 = 0 → (vp_in a1 (ml 2) ∧ ((a4 = 0 → (vp_in a1 (ml 2) ∧ (vp_in a1 (ml 2) ∧ ((¬ (μ79 2 a1.toNatClampNeg) = ((tms μ79 2 a1.toNatClampNeg ((μ79 2 a1.toNatClampNeg) &&& (((1 : Int32) <<< (a2 &&& 31)) ^^^ (-1 : Int32)))) 2 a1.toNatClampNeg) → (wp_X11_did (tms μ79 2 a1.toNatClampNeg ((μ79 2 a1.toNatClampNeg) &&& (((1 : Int32) <<< (a2 &&& 31)) ^^^ (-1 : Int32)))) (1 : Int32) (fun (r89 : Int32) (μ88 : TMem) => Q r89 μ88))) ∧ ((μ79 2 a1.toNatClampNeg) = ((tms μ79 2 a1.toNatClampNeg ((μ79 2 a1.toNatClampNeg) &&& (((1 : Int32) <<< (a2 &&& 31)) ^^^ (-1 : Int32)))) 2 a1.toNatClampNeg) → (wp_X11_did (tms μ79 2 a1.toNatClampNeg ((μ79 2 a1.toNatClampNeg) &&& (((1 : Int32) <<< (a2 &&& 31)) ^^^ (-1 : Int32)))) (0 : Int32) (fun (r91 : Int32) (μ90 : TMem) => Q r91 μ90))))))) ∧ (¬ a4 = 0 → (vp_in a1 (ml 2) ∧ (vp_in a1 (ml 2) ∧ ((¬ (μ79 2 a1.toNatClampNeg) = ((tms μ79 2 a1.toNatClampNeg ((μ79 2 a1.toNatClampNeg) ||| ((1 : Int32) <<< (a2 &&& 31)))) 2 a1.toNatClampNeg) → (wp_X11_did (tms μ79 2 a1.toNatClampNeg ((μ79 2 a1.toNatClampNeg) ||| ((1 : Int32) <<< (a2 &&& 31)))) (1 : Int32) (fun (r96 : Int32) (μ95 : TMem) => Q r96 μ95))) ∧ ((μ79 2 a1.toNatClampNeg) = ((tms μ79 2 a1.toNatClampNeg ((μ79 2 a1.toNatClampNeg) ||| ((1 : Int32) <<< (a2 &&& 31)))) 2 a1.toNatClampNeg) → (wp_X11_did (tms μ79 2 a1.toNatClampNeg ((μ79 2 a1.toNatClampNeg) ||| ((1 : Int32) <<< (a2 &&& 31)))) (0 : Int32) (fun (r98 : Int32) (μ97 : TMem) => Q r98 μ97)))))))))) ∧ (¬ a3 = 0 → (vp_in a1 (ml 3) ∧ ((a4 = 0 → (vp_in a1 (ml 3) ∧ (vp_in a1 (ml 3) ∧ ((¬ (μ79 3 a1.toNatClampNeg) = ((tms μ79 3 a1.toNatClampNeg ((μ79 3 a1.toNatClampNeg) &&& (((1 : Int32) <<< (a2 &&& 31)) ^^^ (-1 : Int32)))) 3 a1.toNatClampNeg) → (wp_X11_did (tms μ79 3 a1.toNatClampNeg ((μ79 3 a1.toNatClampNeg) &&& (((1 : Int32) <<< (a2 &&& 31)) ^^^ (-1 : Int32)))) (1 : Int32) (fun (r105 : Int32) (μ104 : TMem) => Q r105 μ104))) ∧ ((μ79 3 a1.toNatClampNeg) = ((tms μ79 3 a1.toNatClampNeg ((μ79 3 a1.toNatClampNeg) &&& (((1 : Int32) <<< (a2 &&& 31)) ^^^ (-1 : Int32)))) 3 a1.toNatClampNeg) → (wp_X11_did (tms μ79 3 a1.toNatClampNeg ((μ79 3 a1.toNatClampNeg) &&& (((1 : Int32) <<< (a2 &&& 31)) ^^^ (-1 : Int32)))) (0 : Int32) (fun (r107 : Int32) (μ106 : TMem) => Q r107 μ106))))))) ∧ (¬ a4 = 0 → (vp_in a1 (ml 3) ∧ (vp_in a1 (ml 3) ∧ ((¬ (μ79 3 a1.toNatClampNeg) = ((tms μ79 3 a1.toNatClampNeg ((μ79 3 a1.toNatClampNeg) ||| ((1 : Int32) <<< (a2 &&& 31)))) 3 a1.toNatClampNeg) → (wp_X11_did (tms μ79 3 a1.toNatClampNeg ((μ79 3 a1.toNatClampNeg) ||| ((1 : Int32) <<< (a2 &&& 31)))) (1 : Int32) (fun (r112 : Int32) (μ111 : TMem) => Q r112 μ111))) ∧ ((μ79 3 a1.toNatClampNeg) = ((tms μ79 3 a1.toNatClampNeg ((μ79 3 a1.toNatClampNeg) ||| ((1 : Int32) <<< (a2 &&& 31)))) 3 a1.toNatClampNeg) → (wp_X11_did (tms μ79 3 a1.toNatClampNeg ((μ79 3 a1.toNatClampNeg) ||| ((1 : Int32) <<< (a2 &&& 31)))) (0 : Int32) (fun (r114 : Int32) (μ113 : TMem) => Q r114 μ113)))))))))))) ∧ (¬ r80 = 0 → (Q (0 : Int32) μ79)))))))))
set_option maxHeartbeats 4000000 in
set_option maxRecDepth 100000 in
theorem c_X11_mark {l : Launch} {D : va_G} {ad : Nat → Nat} {cI cL : ClassId}  (μ : TMem) (sz : Nat) (a1 : Int32) (a2 : Int32) (a3 : Int32) (a4 : Int32)  {Q : Int32 → TMem → Prop} (h : wp_X11_mark μ a1 a2 a3 a4 Q) : MMi l yX11_mark (.code yX11_mark cX11_mark 7 (Option.some Jvm.ClassFile.FieldType.int)) 2 0 0 [.ref (ad 0), .int a1, .int a2, .int a3, .int a4] D ad cI cL sz μ [] Q := by
  refine M_meti (by decide +kernel) (Nat.le_of_ble_eq_true rfl) ?_
  intro p e s m below meth c Z ls hx hb hml hown ht hK hP0 hI hne hw hret hl
  have hl : lv_has ls 7 [(0, .ref (ad 0)), (1, .int a1), (2, .int a2), (3, .int a3), (4, .int a4)] := hl
  suffices hh : ∀ (H : Heap) (locs : List Loc), MW D (MR ad cI μ) [] (MA ad s.heap.size) s H locs → W p l e (RA 2 0 0) s m #[.ref (ad 0), .int a1, .int a2, .int a3, .int a4] below meth c H locs 0 0 Z (F0 m 0 ls []) from hh _ _ hw
  intro H locs hw
  change wp_X11_isOne a1 (fun (r1 : Int32) => (r1 = 0 → (wp_X11_isThrown μ (0 : Int32) (1 : Int32) (fun (r4 : Int32) (μ3 : TMem) => (r4 = 0 → ((a3 = 0 → (vp_in a1 (ml 2) ∧ ((a4 = 0 → (vp_in a1 (ml 2) ∧ (vp_in a1 (ml 2) ∧ ((¬ (μ3 2 a1.toNatClampNeg) = ((tms μ3 2 a1.toNatClampNeg ((μ3 2 a1.toNatClampNeg) &&& (((1 : Int32) <<< (a2 &&& 31)) ^^^ (-1 : Int32)))) 2 a1.toNatClampNeg) → (wp_X11_did (tms μ3 2 a1.toNatClampNeg ((μ3 2 a1.toNatClampNeg) &&& (((1 : Int32) <<< (a2 &&& 31)) ^^^ (-1 : Int32)))) (1 : Int32) (fun (r13 : Int32) (μ12 : TMem) => Q r13 μ12))) ∧ ((μ3 2 a1.toNatClampNeg) = ((tms μ3 2 a1.toNatClampNeg ((μ3 2 a1.toNatClampNeg) &&& (((1 : Int32) <<< (a2 &&& 31)) ^^^ (-1 : Int32)))) 2 a1.toNatClampNeg) → (wp_X11_did (tms μ3 2 a1.toNatClampNeg ((μ3 2 a1.toNatClampNeg) &&& (((1 : Int32) <<< (a2 &&& 31)) ^^^ (-1 : Int32)))) (0 : Int32) (fun (r15 : Int32) (μ14 : TMem) => Q r15 μ14))))))) ∧ (¬ a4 = 0 → (vp_in a1 (ml 2) ∧ (vp_in a1 (ml 2) ∧ ((¬ (μ3 2 a1.toNatClampNeg) = ((tms μ3 2 a1.toNatClampNeg ((μ3 2 a1.toNatClampNeg) ||| ((1 : Int32) <<< (a2 &&& 31)))) 2 a1.toNatClampNeg) → (wp_X11_did (tms μ3 2 a1.toNatClampNeg ((μ3 2 a1.toNatClampNeg) ||| ((1 : Int32) <<< (a2 &&& 31)))) (1 : Int32) (fun (r20 : Int32) (μ19 : TMem) => Q r20 μ19))) ∧ ((μ3 2 a1.toNatClampNeg) = ((tms μ3 2 a1.toNatClampNeg ((μ3 2 a1.toNatClampNeg) ||| ((1 : Int32) <<< (a2 &&& 31)))) 2 a1.toNatClampNeg) → (wp_X11_did (tms μ3 2 a1.toNatClampNeg ((μ3 2 a1.toNatClampNeg) ||| ((1 : Int32) <<< (a2 &&& 31)))) (0 : Int32) (fun (r22 : Int32) (μ21 : TMem) => Q r22 μ21)))))))))) ∧ (¬ a3 = 0 → (vp_in a1 (ml 3) ∧ ((a4 = 0 → (vp_in a1 (ml 3) ∧ (vp_in a1 (ml 3) ∧ ((¬ (μ3 3 a1.toNatClampNeg) = ((tms μ3 3 a1.toNatClampNeg ((μ3 3 a1.toNatClampNeg) &&& (((1 : Int32) <<< (a2 &&& 31)) ^^^ (-1 : Int32)))) 3 a1.toNatClampNeg) → (wp_X11_did (tms μ3 3 a1.toNatClampNeg ((μ3 3 a1.toNatClampNeg) &&& (((1 : Int32) <<< (a2 &&& 31)) ^^^ (-1 : Int32)))) (1 : Int32) (fun (r29 : Int32) (μ28 : TMem) => Q r29 μ28))) ∧ ((μ3 3 a1.toNatClampNeg) = ((tms μ3 3 a1.toNatClampNeg ((μ3 3 a1.toNatClampNeg) &&& (((1 : Int32) <<< (a2 &&& 31)) ^^^ (-1 : Int32)))) 3 a1.toNatClampNeg) → (wp_X11_did (tms μ3 3 a1.toNatClampNeg ((μ3 3 a1.toNatClampNeg) &&& (((1 : Int32) <<< (a2 &&& 31)) ^^^ (-1 : Int32)))) (0 : Int32) (fun (r31 : Int32) (μ30 : TMem) => Q r31 μ30))))))) ∧ (¬ a4 = 0 → (vp_in a1 (ml 3) ∧ (vp_in a1 (ml 3) ∧ ((¬ (μ3 3 a1.toNatClampNeg) = ((tms μ3 3 a1.toNatClampNeg ((μ3 3 a1.toNatClampNeg) ||| ((1 : Int32) <<< (a2 &&& 31)))) 3 a1.toNatClampNeg) → (wp_X11_did (tms μ3 3 a1.toNatClampNeg ((μ3 3 a1.toNatClampNeg) ||| ((1 : Int32) <<< (a2 &&& 31)))) (1 : Int32) (fun (r36 : Int32) (μ35 : TMem) => Q r36 μ35))) ∧ ((μ3 3 a1.toNatClampNeg) = ((tms μ3 3 a1.toNatClampNeg ((μ3 3 a1.toNatClampNeg) ||| ((1 : Int32) <<< (a2 &&& 31)))) 3 a1.toNatClampNeg) → (wp_X11_did (tms μ3 3 a1.toNatClampNeg ((μ3 3 a1.toNatClampNeg) ||| ((1 : Int32) <<< (a2 &&& 31)))) (0 : Int32) (fun (r38 : Int32) (μ37 : TMem) => Q r38 μ37)))))))))))) ∧ (¬ r4 = 0 → (Q (0 : Int32) μ3))))) ∧ (¬ r1 = 0 → (wp_X11_isState μ a1 a2 (fun (r41 : Int32) => (r41 = 0 → (wp_X11_isThrown μ (0 : Int32) (1 : Int32) (fun (r44 : Int32) (μ43 : TMem) => (r44 = 0 → ((a3 = 0 → (vp_in a1 (ml 2) ∧ ((a4 = 0 → (vp_in a1 (ml 2) ∧ (vp_in a1 (ml 2) ∧ ((¬ (μ43 2 a1.toNatClampNeg) = ((tms μ43 2 a1.toNatClampNeg ((μ43 2 a1.toNatClampNeg) &&& (((1 : Int32) <<< (a2 &&& 31)) ^^^ (-1 : Int32)))) 2 a1.toNatClampNeg) → (wp_X11_did (tms μ43 2 a1.toNatClampNeg ((μ43 2 a1.toNatClampNeg) &&& (((1 : Int32) <<< (a2 &&& 31)) ^^^ (-1 : Int32)))) (1 : Int32) (fun (r53 : Int32) (μ52 : TMem) => Q r53 μ52))) ∧ ((μ43 2 a1.toNatClampNeg) = ((tms μ43 2 a1.toNatClampNeg ((μ43 2 a1.toNatClampNeg) &&& (((1 : Int32) <<< (a2 &&& 31)) ^^^ (-1 : Int32)))) 2 a1.toNatClampNeg) → (wp_X11_did (tms μ43 2 a1.toNatClampNeg ((μ43 2 a1.toNatClampNeg) &&& (((1 : Int32) <<< (a2 &&& 31)) ^^^ (-1 : Int32)))) (0 : Int32) (fun (r55 : Int32) (μ54 : TMem) => Q r55 μ54))))))) ∧ (¬ a4 = 0 → (vp_in a1 (ml 2) ∧ (vp_in a1 (ml 2) ∧ ((¬ (μ43 2 a1.toNatClampNeg) = ((tms μ43 2 a1.toNatClampNeg ((μ43 2 a1.toNatClampNeg) ||| ((1 : Int32) <<< (a2 &&& 31)))) 2 a1.toNatClampNeg) → (wp_X11_did (tms μ43 2 a1.toNatClampNeg ((μ43 2 a1.toNatClampNeg) ||| ((1 : Int32) <<< (a2 &&& 31)))) (1 : Int32) (fun (r60 : Int32) (μ59 : TMem) => Q r60 μ59))) ∧ ((μ43 2 a1.toNatClampNeg) = ((tms μ43 2 a1.toNatClampNeg ((μ43 2 a1.toNatClampNeg) ||| ((1 : Int32) <<< (a2 &&& 31)))) 2 a1.toNatClampNeg) → (wp_X11_did (tms μ43 2 a1.toNatClampNeg ((μ43 2 a1.toNatClampNeg) ||| ((1 : Int32) <<< (a2 &&& 31)))) (0 : Int32) (fun (r62 : Int32) (μ61 : TMem) => Q r62 μ61)))))))))) ∧ (¬ a3 = 0 → (vp_in a1 (ml 3) ∧ ((a4 = 0 → (vp_in a1 (ml 3) ∧ (vp_in a1 (ml 3) ∧ ((¬ (μ43 3 a1.toNatClampNeg) = ((tms μ43 3 a1.toNatClampNeg ((μ43 3 a1.toNatClampNeg) &&& (((1 : Int32) <<< (a2 &&& 31)) ^^^ (-1 : Int32)))) 3 a1.toNatClampNeg) → (wp_X11_did (tms μ43 3 a1.toNatClampNeg ((μ43 3 a1.toNatClampNeg) &&& (((1 : Int32) <<< (a2 &&& 31)) ^^^ (-1 : Int32)))) (1 : Int32) (fun (r69 : Int32) (μ68 : TMem) => Q r69 μ68))) ∧ ((μ43 3 a1.toNatClampNeg) = ((tms μ43 3 a1.toNatClampNeg ((μ43 3 a1.toNatClampNeg) &&& (((1 : Int32) <<< (a2 &&& 31)) ^^^ (-1 : Int32)))) 3 a1.toNatClampNeg) → (wp_X11_did (tms μ43 3 a1.toNatClampNeg ((μ43 3 a1.toNatClampNeg) &&& (((1 : Int32) <<< (a2 &&& 31)) ^^^ (-1 : Int32)))) (0 : Int32) (fun (r71 : Int32) (μ70 : TMem) => Q r71 μ70))))))) ∧ (¬ a4 = 0 → (vp_in a1 (ml 3) ∧ (vp_in a1 (ml 3) ∧ ((¬ (μ43 3 a1.toNatClampNeg) = ((tms μ43 3 a1.toNatClampNeg ((μ43 3 a1.toNatClampNeg) ||| ((1 : Int32) <<< (a2 &&& 31)))) 3 a1.toNatClampNeg) → (wp_X11_did (tms μ43 3 a1.toNatClampNeg ((μ43 3 a1.toNatClampNeg) ||| ((1 : Int32) <<< (a2 &&& 31)))) (1 : Int32) (fun (r76 : Int32) (μ75 : TMem) => Q r76 μ75))) ∧ ((μ43 3 a1.toNatClampNeg) = ((tms μ43 3 a1.toNatClampNeg ((μ43 3 a1.toNatClampNeg) ||| ((1 : Int32) <<< (a2 &&& 31)))) 3 a1.toNatClampNeg) → (wp_X11_did (tms μ43 3 a1.toNatClampNeg ((μ43 3 a1.toNatClampNeg) ||| ((1 : Int32) <<< (a2 &&& 31)))) (0 : Int32) (fun (r78 : Int32) (μ77 : TMem) => Q r78 μ77)))))))))))) ∧ (¬ r44 = 0 → (Q (0 : Int32) μ43))))) ∧ (¬ r41 = 0 → (wp_X11_isThrown μ (1 : Int32) (1 : Int32) (fun (r80 : Int32) (μ79 : TMem) => (r80 = 0 → ((a3 = 0 → (vp_in a1 (ml 2) ∧ ((a4 = 0 → (vp_in a1 (ml 2) ∧ (vp_in a1 (ml 2) ∧ ((¬ (μ79 2 a1.toNatClampNeg) = ((tms μ79 2 a1.toNatClampNeg ((μ79 2 a1.toNatClampNeg) &&& (((1 : Int32) <<< (a2 &&& 31)) ^^^ (-1 : Int32)))) 2 a1.toNatClampNeg) → (wp_X11_did (tms μ79 2 a1.toNatClampNeg ((μ79 2 a1.toNatClampNeg) &&& (((1 : Int32) <<< (a2 &&& 31)) ^^^ (-1 : Int32)))) (1 : Int32) (fun (r89 : Int32) (μ88 : TMem) => Q r89 μ88))) ∧ ((μ79 2 a1.toNatClampNeg) = ((tms μ79 2 a1.toNatClampNeg ((μ79 2 a1.toNatClampNeg) &&& (((1 : Int32) <<< (a2 &&& 31)) ^^^ (-1 : Int32)))) 2 a1.toNatClampNeg) → (wp_X11_did (tms μ79 2 a1.toNatClampNeg ((μ79 2 a1.toNatClampNeg) &&& (((1 : Int32) <<< (a2 &&& 31)) ^^^ (-1 : Int32)))) (0 : Int32) (fun (r91 : Int32) (μ90 : TMem) => Q r91 μ90))))))) ∧ (¬ a4 = 0 → (vp_in a1 (ml 2) ∧ (vp_in a1 (ml 2) ∧ ((¬ (μ79 2 a1.toNatClampNeg) = ((tms μ79 2 a1.toNatClampNeg ((μ79 2 a1.toNatClampNeg) ||| ((1 : Int32) <<< (a2 &&& 31)))) 2 a1.toNatClampNeg) → (wp_X11_did (tms μ79 2 a1.toNatClampNeg ((μ79 2 a1.toNatClampNeg) ||| ((1 : Int32) <<< (a2 &&& 31)))) (1 : Int32) (fun (r96 : Int32) (μ95 : TMem) => Q r96 μ95))) ∧ ((μ79 2 a1.toNatClampNeg) = ((tms μ79 2 a1.toNatClampNeg ((μ79 2 a1.toNatClampNeg) ||| ((1 : Int32) <<< (a2 &&& 31)))) 2 a1.toNatClampNeg) → (wp_X11_did (tms μ79 2 a1.toNatClampNeg ((μ79 2 a1.toNatClampNeg) ||| ((1 : Int32) <<< (a2 &&& 31)))) (0 : Int32) (fun (r98 : Int32) (μ97 : TMem) => Q r98 μ97)))))))))) ∧ (¬ a3 = 0 → (vp_in a1 (ml 3) ∧ ((a4 = 0 → (vp_in a1 (ml 3) ∧ (vp_in a1 (ml 3) ∧ ((¬ (μ79 3 a1.toNatClampNeg) = ((tms μ79 3 a1.toNatClampNeg ((μ79 3 a1.toNatClampNeg) &&& (((1 : Int32) <<< (a2 &&& 31)) ^^^ (-1 : Int32)))) 3 a1.toNatClampNeg) → (wp_X11_did (tms μ79 3 a1.toNatClampNeg ((μ79 3 a1.toNatClampNeg) &&& (((1 : Int32) <<< (a2 &&& 31)) ^^^ (-1 : Int32)))) (1 : Int32) (fun (r105 : Int32) (μ104 : TMem) => Q r105 μ104))) ∧ ((μ79 3 a1.toNatClampNeg) = ((tms μ79 3 a1.toNatClampNeg ((μ79 3 a1.toNatClampNeg) &&& (((1 : Int32) <<< (a2 &&& 31)) ^^^ (-1 : Int32)))) 3 a1.toNatClampNeg) → (wp_X11_did (tms μ79 3 a1.toNatClampNeg ((μ79 3 a1.toNatClampNeg) &&& (((1 : Int32) <<< (a2 &&& 31)) ^^^ (-1 : Int32)))) (0 : Int32) (fun (r107 : Int32) (μ106 : TMem) => Q r107 μ106))))))) ∧ (¬ a4 = 0 → (vp_in a1 (ml 3) ∧ (vp_in a1 (ml 3) ∧ ((¬ (μ79 3 a1.toNatClampNeg) = ((tms μ79 3 a1.toNatClampNeg ((μ79 3 a1.toNatClampNeg) ||| ((1 : Int32) <<< (a2 &&& 31)))) 3 a1.toNatClampNeg) → (wp_X11_did (tms μ79 3 a1.toNatClampNeg ((μ79 3 a1.toNatClampNeg) ||| ((1 : Int32) <<< (a2 &&& 31)))) (1 : Int32) (fun (r112 : Int32) (μ111 : TMem) => Q r112 μ111))) ∧ ((μ79 3 a1.toNatClampNeg) = ((tms μ79 3 a1.toNatClampNeg ((μ79 3 a1.toNatClampNeg) ||| ((1 : Int32) <<< (a2 &&& 31)))) 3 a1.toNatClampNeg) → (wp_X11_did (tms μ79 3 a1.toNatClampNeg ((μ79 3 a1.toNatClampNeg) ||| ((1 : Int32) <<< (a2 &&& 31)))) (0 : Int32) (fun (r114 : Int32) (μ113 : TMem) => Q r114 μ113)))))))))))) ∧ (¬ r80 = 0 → (Q (0 : Int32) μ79))))))))) at h
  refine lv_aload_n hx hb dX11_mark_0 rfl (lv_at hl 0 rfl) ?_
  refine lv_iload_n hx hb dX11_mark_1 rfl (lv_at hl 1 rfl) ?_
  refine P_calli (va_runS (own := "LeastreaderModel") (As := [.int a1]) (rest := [.ref (ad 0)]) ⟨hx, hb, hml, hown, ht⟩ (c_X11_isOne a1 h) (va_cwS 1 ht (G_S q_1342 q_1343 q_56 q_1344) rfl rfl rfl hd_91 ⟨Nat.le_of_ble_eq_true rfl, Nat.le_of_ble_eq_true rfl⟩) ⟨PM_blind, PM_pre⟩ rfl rfl hl.1 rfl (lv_room (Nat.le_of_ble_eq_true rfl)) dX11_mark_2 ⟨show 0 + 0 ≤ 0 by omega, show 0 + 0 ≤ 0 by omega⟩) (fun r1 h => ?_)
  refine lv_if_eq (tgt := 21) hx hb dX11_mark_5 (by decide) (fun c2 => ?_) (fun c2 => ?_)
  · have h := h.1 c2
    refine lv_iconst (v := (0 : Int32)) hx hb dX11_mark_21 (by decide) ?_
    refine lv_iconst (v := (1 : Int32)) hx hb dX11_mark_22 (by decide) ?_
    refine M_calli hw (MA.up hw.2.2.1.1) (va_runV (own := "LeastreaderModel") (As := [.int (0 : Int32), .int (1 : Int32)]) (rest := []) ⟨hx, hb, hml, hown, ht⟩ (c_X11_isThrown μ H.size (0 : Int32) (1 : Int32) h) (cwV 2 ht (G_V q_1348 q_1350 q_26 q_56 q_1351) rfl rfl rfl ⟨rfl, hd_92⟩ ⟨Nat.le_of_ble_eq_true rfl, Nat.le_of_ble_eq_true rfl⟩) ⟨MB.blind, M_recv hK hw, MB.pre hK hI hw va_P0 ne0⟩ rfl rfl hl.1 rfl (lv_room (Nat.le_of_ble_eq_true rfl)) dX11_mark_23 ⟨show 0 + 0 ≤ 0 by omega, show 0 + 0 ≤ 0 by omega⟩) (fun r4 μ3 H locs h hw => ?_)
    refine lv_if_eq (tgt := 31) hx hb dX11_mark_26 (by decide) (fun c5 => ?_) (fun c5 => ?_)
    · have h := h.1 c5
      refine lv_iload_n hx hb dX11_mark_31 rfl (lv_at hl 3 rfl) ?_
      refine lv_if_eq (tgt := 42) hx hb dX11_mark_32 (by decide) (fun c6 => ?_) (fun c6 => ?_)
      · have h := h.1 c6
        refine lv_aload_n hx hb dX11_mark_42 rfl (lv_at hl 0 rfl) ?_
        refine m_get (i := 1) hx hb ht hown hK hw (by decide) (ht _ q_1314) rfl rfl dX11_mark_43 ?_
        refine lv_astore (lv' := [(5, .ref (ad 2)), (0, .ref (ad 0)), (1, .int a1), (2, .int a2), (3, .int a3), (4, .int a4)]) hx hb dX11_mark_46 hl (by decide) rfl (fun ls hl => ?_)
        refine lv_aload hx hb dX11_mark_48 (lv_at hl 0 rfl) ?_
        refine lv_iload_n hx hb dX11_mark_50 rfl (lv_at hl 2 rfl) ?_
        obtain ⟨z7, h⟩ := h
        refine m_iald hx hb hK hw (by decide) z7 dX11_mark_51 ?_
        refine lv_istore (lv' := [(6, .int (μ3 2 a1.toNatClampNeg)), (5, .ref (ad 2)), (0, .ref (ad 0)), (1, .int a1), (2, .int a2), (3, .int a3), (4, .int a4)]) hx hb dX11_mark_52 hl (by decide) rfl (fun ls hl => ?_)
        refine lv_aload hx hb dX11_mark_54 (lv_at hl 1 rfl) ?_
        refine lv_iload_n hx hb dX11_mark_56 rfl (lv_at hl 3 rfl) ?_
        refine lv_iload hx hb dX11_mark_57 (lv_at hl 6 rfl) ?_
        refine lv_if_eq (tgt := 71) hx hb dX11_mark_59 (by decide) (fun c8 => ?_) (fun c8 => ?_)
        · have h := h.1 c8
          refine lv_iload hx hb dX11_mark_71 (lv_at hl 0 rfl) ?_
          refine lv_iconst (v := (1 : Int32)) hx hb dX11_mark_73 (by decide) ?_
          refine lv_iload_n hx hb dX11_mark_74 rfl (lv_at hl 4 rfl) ?_
          refine lv_ishl hx hb dX11_mark_75 ?_
          refine lv_iconst (v := (-1 : Int32)) hx hb dX11_mark_76 (by decide) ?_
          refine lv_ixor hx hb dX11_mark_77 ?_
          refine lv_iand hx hb dX11_mark_78 ?_
          obtain ⟨z9, h⟩ := h
          refine m_iast hx hb hK hw (by decide) z9 dX11_mark_79 (fun H locs hw => ?_)
          refine lv_aload_n hx hb dX11_mark_80 rfl (lv_at hl 2 rfl) ?_
          refine lv_iload hx hb dX11_mark_81 (lv_at hl 0 rfl) ?_
          refine lv_aload hx hb dX11_mark_83 (lv_at hl 1 rfl) ?_
          refine lv_iload_n hx hb dX11_mark_85 rfl (lv_at hl 3 rfl) ?_
          obtain ⟨z10, h⟩ := h
          refine m_iald hx hb hK hw (by decide) z10 dX11_mark_86 ?_
          refine lv_icmp_ne (tgt := 94) hx hb dX11_mark_87 (by decide) (fun c11 => ?_) (fun c11 => ?_)
          · have h := h.1 c11
            refine lv_iconst (v := (1 : Int32)) hx hb dX11_mark_94 (by decide) ?_
            refine M_calli hw (MA.up hw.2.2.1.1) (va_runV (own := "LeastreaderModel") (As := [.int (1 : Int32)]) (rest := []) ⟨hx, hb, hml, hown, ht⟩ (c_X11_did (tms μ3 2 a1.toNatClampNeg ((μ3 2 a1.toNatClampNeg) &&& (((1 : Int32) <<< (a2 &&& 31)) ^^^ (-1 : Int32)))) H.size (1 : Int32) h) (cwV 1 ht (G_V q_1364 q_1366 q_29 q_56 q_1367) rfl rfl rfl ⟨rfl, hd_95⟩ ⟨Nat.le_of_ble_eq_true rfl, Nat.le_of_ble_eq_true rfl⟩) ⟨MB.blind, M_recv hK hw, MB.pre hK hI hw va_P0 ne0⟩ rfl rfl hl.1 rfl (lv_room (Nat.le_of_ble_eq_true rfl)) dX11_mark_95 ⟨show 0 + 0 ≤ 0 by omega, show 0 + 0 ≤ 0 by omega⟩) (fun r13 μ12 H locs h hw => ?_)
            exact hret H locs ls 98 _ _ _ _ _ hw h rfl (show 0 ≤ 0 by omega) (show 0 ≤ 0 by omega) dX11_mark_98
          have h := h.2 c11
          refine lv_iconst (v := (0 : Int32)) hx hb dX11_mark_90 (by decide) ?_
          refine lv_goto (tgt := 95) hx hb dX11_mark_91 (by decide) ?_
          refine M_calli hw (MA.up hw.2.2.1.1) (va_runV (own := "LeastreaderModel") (As := [.int (0 : Int32)]) (rest := []) ⟨hx, hb, hml, hown, ht⟩ (c_X11_did (tms μ3 2 a1.toNatClampNeg ((μ3 2 a1.toNatClampNeg) &&& (((1 : Int32) <<< (a2 &&& 31)) ^^^ (-1 : Int32)))) H.size (0 : Int32) h) (cwV 1 ht (G_V q_1364 q_1366 q_29 q_56 q_1367) rfl rfl rfl ⟨rfl, hd_95⟩ ⟨Nat.le_of_ble_eq_true rfl, Nat.le_of_ble_eq_true rfl⟩) ⟨MB.blind, M_recv hK hw, MB.pre hK hI hw va_P0 ne0⟩ rfl rfl hl.1 rfl (lv_room (Nat.le_of_ble_eq_true rfl)) dX11_mark_95 ⟨show 0 + 0 ≤ 0 by omega, show 0 + 0 ≤ 0 by omega⟩) (fun r15 μ14 H locs h hw => ?_)
          exact hret H locs ls 98 _ _ _ _ _ hw h rfl (show 0 ≤ 0 by omega) (show 0 ≤ 0 by omega) dX11_mark_98
        have h := h.2 c8
        refine lv_iload hx hb dX11_mark_62 (lv_at hl 0 rfl) ?_
        refine lv_iconst (v := (1 : Int32)) hx hb dX11_mark_64 (by decide) ?_
        refine lv_iload_n hx hb dX11_mark_65 rfl (lv_at hl 4 rfl) ?_
        refine lv_ishl hx hb dX11_mark_66 ?_
        refine lv_ior hx hb dX11_mark_67 ?_
        refine lv_goto (tgt := 79) hx hb dX11_mark_68 (by decide) ?_
        obtain ⟨z16, h⟩ := h
        refine m_iast hx hb hK hw (by decide) z16 dX11_mark_79 (fun H locs hw => ?_)
        refine lv_aload_n hx hb dX11_mark_80 rfl (lv_at hl 2 rfl) ?_
        refine lv_iload hx hb dX11_mark_81 (lv_at hl 0 rfl) ?_
        refine lv_aload hx hb dX11_mark_83 (lv_at hl 1 rfl) ?_
        refine lv_iload_n hx hb dX11_mark_85 rfl (lv_at hl 3 rfl) ?_
        obtain ⟨z17, h⟩ := h
        refine m_iald hx hb hK hw (by decide) z17 dX11_mark_86 ?_
        refine lv_icmp_ne (tgt := 94) hx hb dX11_mark_87 (by decide) (fun c18 => ?_) (fun c18 => ?_)
        · have h := h.1 c18
          refine lv_iconst (v := (1 : Int32)) hx hb dX11_mark_94 (by decide) ?_
          refine M_calli hw (MA.up hw.2.2.1.1) (va_runV (own := "LeastreaderModel") (As := [.int (1 : Int32)]) (rest := []) ⟨hx, hb, hml, hown, ht⟩ (c_X11_did (tms μ3 2 a1.toNatClampNeg ((μ3 2 a1.toNatClampNeg) ||| ((1 : Int32) <<< (a2 &&& 31)))) H.size (1 : Int32) h) (cwV 1 ht (G_V q_1364 q_1366 q_29 q_56 q_1367) rfl rfl rfl ⟨rfl, hd_95⟩ ⟨Nat.le_of_ble_eq_true rfl, Nat.le_of_ble_eq_true rfl⟩) ⟨MB.blind, M_recv hK hw, MB.pre hK hI hw va_P0 ne0⟩ rfl rfl hl.1 rfl (lv_room (Nat.le_of_ble_eq_true rfl)) dX11_mark_95 ⟨show 0 + 0 ≤ 0 by omega, show 0 + 0 ≤ 0 by omega⟩) (fun r20 μ19 H locs h hw => ?_)
          exact hret H locs ls 98 _ _ _ _ _ hw h rfl (show 0 ≤ 0 by omega) (show 0 ≤ 0 by omega) dX11_mark_98
        have h := h.2 c18
        refine lv_iconst (v := (0 : Int32)) hx hb dX11_mark_90 (by decide) ?_
        refine lv_goto (tgt := 95) hx hb dX11_mark_91 (by decide) ?_
        refine M_calli hw (MA.up hw.2.2.1.1) (va_runV (own := "LeastreaderModel") (As := [.int (0 : Int32)]) (rest := []) ⟨hx, hb, hml, hown, ht⟩ (c_X11_did (tms μ3 2 a1.toNatClampNeg ((μ3 2 a1.toNatClampNeg) ||| ((1 : Int32) <<< (a2 &&& 31)))) H.size (0 : Int32) h) (cwV 1 ht (G_V q_1364 q_1366 q_29 q_56 q_1367) rfl rfl rfl ⟨rfl, hd_95⟩ ⟨Nat.le_of_ble_eq_true rfl, Nat.le_of_ble_eq_true rfl⟩) ⟨MB.blind, M_recv hK hw, MB.pre hK hI hw va_P0 ne0⟩ rfl rfl hl.1 rfl (lv_room (Nat.le_of_ble_eq_true rfl)) dX11_mark_95 ⟨show 0 + 0 ≤ 0 by omega, show 0 + 0 ≤ 0 by omega⟩) (fun r22 μ21 H locs h hw => ?_)
        exact hret H locs ls 98 _ _ _ _ _ hw h rfl (show 0 ≤ 0 by omega) (show 0 ≤ 0 by omega) dX11_mark_98
      have h := h.2 c6
      refine lv_aload_n hx hb dX11_mark_35 rfl (lv_at hl 0 rfl) ?_
      refine m_get (i := 2) hx hb ht hown hK hw (by decide) (ht _ q_1315) rfl rfl dX11_mark_36 ?_
      refine lv_goto (tgt := 46) hx hb dX11_mark_39 (by decide) ?_
      refine lv_astore (lv' := [(5, .ref (ad 3)), (0, .ref (ad 0)), (1, .int a1), (2, .int a2), (3, .int a3), (4, .int a4)]) hx hb dX11_mark_46 hl (by decide) rfl (fun ls hl => ?_)
      refine lv_aload hx hb dX11_mark_48 (lv_at hl 0 rfl) ?_
      refine lv_iload_n hx hb dX11_mark_50 rfl (lv_at hl 2 rfl) ?_
      obtain ⟨z23, h⟩ := h
      refine m_iald hx hb hK hw (by decide) z23 dX11_mark_51 ?_
      refine lv_istore (lv' := [(6, .int (μ3 3 a1.toNatClampNeg)), (5, .ref (ad 3)), (0, .ref (ad 0)), (1, .int a1), (2, .int a2), (3, .int a3), (4, .int a4)]) hx hb dX11_mark_52 hl (by decide) rfl (fun ls hl => ?_)
      refine lv_aload hx hb dX11_mark_54 (lv_at hl 1 rfl) ?_
      refine lv_iload_n hx hb dX11_mark_56 rfl (lv_at hl 3 rfl) ?_
      refine lv_iload hx hb dX11_mark_57 (lv_at hl 6 rfl) ?_
      refine lv_if_eq (tgt := 71) hx hb dX11_mark_59 (by decide) (fun c24 => ?_) (fun c24 => ?_)
      · have h := h.1 c24
        refine lv_iload hx hb dX11_mark_71 (lv_at hl 0 rfl) ?_
        refine lv_iconst (v := (1 : Int32)) hx hb dX11_mark_73 (by decide) ?_
        refine lv_iload_n hx hb dX11_mark_74 rfl (lv_at hl 4 rfl) ?_
        refine lv_ishl hx hb dX11_mark_75 ?_
        refine lv_iconst (v := (-1 : Int32)) hx hb dX11_mark_76 (by decide) ?_
        refine lv_ixor hx hb dX11_mark_77 ?_
        refine lv_iand hx hb dX11_mark_78 ?_
        obtain ⟨z25, h⟩ := h
        refine m_iast hx hb hK hw (by decide) z25 dX11_mark_79 (fun H locs hw => ?_)
        refine lv_aload_n hx hb dX11_mark_80 rfl (lv_at hl 2 rfl) ?_
        refine lv_iload hx hb dX11_mark_81 (lv_at hl 0 rfl) ?_
        refine lv_aload hx hb dX11_mark_83 (lv_at hl 1 rfl) ?_
        refine lv_iload_n hx hb dX11_mark_85 rfl (lv_at hl 3 rfl) ?_
        obtain ⟨z26, h⟩ := h
        refine m_iald hx hb hK hw (by decide) z26 dX11_mark_86 ?_
        refine lv_icmp_ne (tgt := 94) hx hb dX11_mark_87 (by decide) (fun c27 => ?_) (fun c27 => ?_)
        · have h := h.1 c27
          refine lv_iconst (v := (1 : Int32)) hx hb dX11_mark_94 (by decide) ?_
          refine M_calli hw (MA.up hw.2.2.1.1) (va_runV (own := "LeastreaderModel") (As := [.int (1 : Int32)]) (rest := []) ⟨hx, hb, hml, hown, ht⟩ (c_X11_did (tms μ3 3 a1.toNatClampNeg ((μ3 3 a1.toNatClampNeg) &&& (((1 : Int32) <<< (a2 &&& 31)) ^^^ (-1 : Int32)))) H.size (1 : Int32) h) (cwV 1 ht (G_V q_1364 q_1366 q_29 q_56 q_1367) rfl rfl rfl ⟨rfl, hd_95⟩ ⟨Nat.le_of_ble_eq_true rfl, Nat.le_of_ble_eq_true rfl⟩) ⟨MB.blind, M_recv hK hw, MB.pre hK hI hw va_P0 ne0⟩ rfl rfl hl.1 rfl (lv_room (Nat.le_of_ble_eq_true rfl)) dX11_mark_95 ⟨show 0 + 0 ≤ 0 by omega, show 0 + 0 ≤ 0 by omega⟩) (fun r29 μ28 H locs h hw => ?_)
          exact hret H locs ls 98 _ _ _ _ _ hw h rfl (show 0 ≤ 0 by omega) (show 0 ≤ 0 by omega) dX11_mark_98
        have h := h.2 c27
        refine lv_iconst (v := (0 : Int32)) hx hb dX11_mark_90 (by decide) ?_
        refine lv_goto (tgt := 95) hx hb dX11_mark_91 (by decide) ?_
        refine M_calli hw (MA.up hw.2.2.1.1) (va_runV (own := "LeastreaderModel") (As := [.int (0 : Int32)]) (rest := []) ⟨hx, hb, hml, hown, ht⟩ (c_X11_did (tms μ3 3 a1.toNatClampNeg ((μ3 3 a1.toNatClampNeg) &&& (((1 : Int32) <<< (a2 &&& 31)) ^^^ (-1 : Int32)))) H.size (0 : Int32) h) (cwV 1 ht (G_V q_1364 q_1366 q_29 q_56 q_1367) rfl rfl rfl ⟨rfl, hd_95⟩ ⟨Nat.le_of_ble_eq_true rfl, Nat.le_of_ble_eq_true rfl⟩) ⟨MB.blind, M_recv hK hw, MB.pre hK hI hw va_P0 ne0⟩ rfl rfl hl.1 rfl (lv_room (Nat.le_of_ble_eq_true rfl)) dX11_mark_95 ⟨show 0 + 0 ≤ 0 by omega, show 0 + 0 ≤ 0 by omega⟩) (fun r31 μ30 H locs h hw => ?_)
        exact hret H locs ls 98 _ _ _ _ _ hw h rfl (show 0 ≤ 0 by omega) (show 0 ≤ 0 by omega) dX11_mark_98
      have h := h.2 c24
      refine lv_iload hx hb dX11_mark_62 (lv_at hl 0 rfl) ?_
      refine lv_iconst (v := (1 : Int32)) hx hb dX11_mark_64 (by decide) ?_
      refine lv_iload_n hx hb dX11_mark_65 rfl (lv_at hl 4 rfl) ?_
      refine lv_ishl hx hb dX11_mark_66 ?_
      refine lv_ior hx hb dX11_mark_67 ?_
      refine lv_goto (tgt := 79) hx hb dX11_mark_68 (by decide) ?_
      obtain ⟨z32, h⟩ := h
      refine m_iast hx hb hK hw (by decide) z32 dX11_mark_79 (fun H locs hw => ?_)
      refine lv_aload_n hx hb dX11_mark_80 rfl (lv_at hl 2 rfl) ?_
      refine lv_iload hx hb dX11_mark_81 (lv_at hl 0 rfl) ?_
      refine lv_aload hx hb dX11_mark_83 (lv_at hl 1 rfl) ?_
      refine lv_iload_n hx hb dX11_mark_85 rfl (lv_at hl 3 rfl) ?_
      obtain ⟨z33, h⟩ := h
      refine m_iald hx hb hK hw (by decide) z33 dX11_mark_86 ?_
      refine lv_icmp_ne (tgt := 94) hx hb dX11_mark_87 (by decide) (fun c34 => ?_) (fun c34 => ?_)
      · have h := h.1 c34
        refine lv_iconst (v := (1 : Int32)) hx hb dX11_mark_94 (by decide) ?_
        refine M_calli hw (MA.up hw.2.2.1.1) (va_runV (own := "LeastreaderModel") (As := [.int (1 : Int32)]) (rest := []) ⟨hx, hb, hml, hown, ht⟩ (c_X11_did (tms μ3 3 a1.toNatClampNeg ((μ3 3 a1.toNatClampNeg) ||| ((1 : Int32) <<< (a2 &&& 31)))) H.size (1 : Int32) h) (cwV 1 ht (G_V q_1364 q_1366 q_29 q_56 q_1367) rfl rfl rfl ⟨rfl, hd_95⟩ ⟨Nat.le_of_ble_eq_true rfl, Nat.le_of_ble_eq_true rfl⟩) ⟨MB.blind, M_recv hK hw, MB.pre hK hI hw va_P0 ne0⟩ rfl rfl hl.1 rfl (lv_room (Nat.le_of_ble_eq_true rfl)) dX11_mark_95 ⟨show 0 + 0 ≤ 0 by omega, show 0 + 0 ≤ 0 by omega⟩) (fun r36 μ35 H locs h hw => ?_)
        exact hret H locs ls 98 _ _ _ _ _ hw h rfl (show 0 ≤ 0 by omega) (show 0 ≤ 0 by omega) dX11_mark_98
      have h := h.2 c34
      refine lv_iconst (v := (0 : Int32)) hx hb dX11_mark_90 (by decide) ?_
      refine lv_goto (tgt := 95) hx hb dX11_mark_91 (by decide) ?_
      refine M_calli hw (MA.up hw.2.2.1.1) (va_runV (own := "LeastreaderModel") (As := [.int (0 : Int32)]) (rest := []) ⟨hx, hb, hml, hown, ht⟩ (c_X11_did (tms μ3 3 a1.toNatClampNeg ((μ3 3 a1.toNatClampNeg) ||| ((1 : Int32) <<< (a2 &&& 31)))) H.size (0 : Int32) h) (cwV 1 ht (G_V q_1364 q_1366 q_29 q_56 q_1367) rfl rfl rfl ⟨rfl, hd_95⟩ ⟨Nat.le_of_ble_eq_true rfl, Nat.le_of_ble_eq_true rfl⟩) ⟨MB.blind, M_recv hK hw, MB.pre hK hI hw va_P0 ne0⟩ rfl rfl hl.1 rfl (lv_room (Nat.le_of_ble_eq_true rfl)) dX11_mark_95 ⟨show 0 + 0 ≤ 0 by omega, show 0 + 0 ≤ 0 by omega⟩) (fun r38 μ37 H locs h hw => ?_)
      exact hret H locs ls 98 _ _ _ _ _ hw h rfl (show 0 ≤ 0 by omega) (show 0 ≤ 0 by omega) dX11_mark_98
    have h := h.2 c5
    refine lv_iconst (v := (0 : Int32)) hx hb dX11_mark_29 (by decide) ?_
    exact hret H locs ls 30 _ _ _ _ _ hw h rfl (show 0 ≤ 0 by omega) (show 0 ≤ 0 by omega) dX11_mark_30
  have h := h.2 c2
  refine lv_aload_n hx hb dX11_mark_8 rfl (lv_at hl 0 rfl) ?_
  refine lv_iload_n hx hb dX11_mark_9 rfl (lv_at hl 1 rfl) ?_
  refine lv_iload_n hx hb dX11_mark_10 rfl (lv_at hl 2 rfl) ?_
  refine M_calli hw (MA.up hw.2.2.1.1) (va_runV (own := "LeastreaderModel") (As := [.int a1, .int a2]) (rest := [.ref (ad 0)]) ⟨hx, hb, hml, hown, ht⟩ (c_X11_isState μ H.size a1 a2 h) (cwV 2 ht (G_V q_1376 q_1378 q_31 q_56 q_1379) rfl rfl rfl ⟨rfl, hd_96⟩ ⟨Nat.le_of_ble_eq_true rfl, Nat.le_of_ble_eq_true rfl⟩) ⟨MB.blind, M_recv hK hw, MB.pre hK hI hw va_P0 ne0⟩ rfl rfl hl.1 rfl (lv_room (Nat.le_of_ble_eq_true rfl)) dX11_mark_11 ⟨show 0 + 0 ≤ 0 by omega, show 0 + 0 ≤ 0 by omega⟩) (fun r41 μ39 H locs h hw => ?_)
  obtain ⟨e40, h⟩ := h
  rw [e40] at hw
  refine lv_if_eq (tgt := 21) hx hb dX11_mark_14 (by decide) (fun c42 => ?_) (fun c42 => ?_)
  · have h := h.1 c42
    refine lv_iconst (v := (0 : Int32)) hx hb dX11_mark_21 (by decide) ?_
    refine lv_iconst (v := (1 : Int32)) hx hb dX11_mark_22 (by decide) ?_
    refine M_calli hw (MA.up hw.2.2.1.1) (va_runV (own := "LeastreaderModel") (As := [.int (0 : Int32), .int (1 : Int32)]) (rest := []) ⟨hx, hb, hml, hown, ht⟩ (c_X11_isThrown μ H.size (0 : Int32) (1 : Int32) h) (cwV 2 ht (G_V q_1348 q_1350 q_26 q_56 q_1351) rfl rfl rfl ⟨rfl, hd_92⟩ ⟨Nat.le_of_ble_eq_true rfl, Nat.le_of_ble_eq_true rfl⟩) ⟨MB.blind, M_recv hK hw, MB.pre hK hI hw va_P0 ne0⟩ rfl rfl hl.1 rfl (lv_room (Nat.le_of_ble_eq_true rfl)) dX11_mark_23 ⟨show 0 + 0 ≤ 0 by omega, show 0 + 0 ≤ 0 by omega⟩) (fun r44 μ43 H locs h hw => ?_)
    refine lv_if_eq (tgt := 31) hx hb dX11_mark_26 (by decide) (fun c45 => ?_) (fun c45 => ?_)
    · have h := h.1 c45
      refine lv_iload_n hx hb dX11_mark_31 rfl (lv_at hl 3 rfl) ?_
      refine lv_if_eq (tgt := 42) hx hb dX11_mark_32 (by decide) (fun c46 => ?_) (fun c46 => ?_)
      · have h := h.1 c46
        refine lv_aload_n hx hb dX11_mark_42 rfl (lv_at hl 0 rfl) ?_
        refine m_get (i := 1) hx hb ht hown hK hw (by decide) (ht _ q_1314) rfl rfl dX11_mark_43 ?_
        refine lv_astore (lv' := [(5, .ref (ad 2)), (0, .ref (ad 0)), (1, .int a1), (2, .int a2), (3, .int a3), (4, .int a4)]) hx hb dX11_mark_46 hl (by decide) rfl (fun ls hl => ?_)
        refine lv_aload hx hb dX11_mark_48 (lv_at hl 0 rfl) ?_
        refine lv_iload_n hx hb dX11_mark_50 rfl (lv_at hl 2 rfl) ?_
        obtain ⟨z47, h⟩ := h
        refine m_iald hx hb hK hw (by decide) z47 dX11_mark_51 ?_
        refine lv_istore (lv' := [(6, .int (μ43 2 a1.toNatClampNeg)), (5, .ref (ad 2)), (0, .ref (ad 0)), (1, .int a1), (2, .int a2), (3, .int a3), (4, .int a4)]) hx hb dX11_mark_52 hl (by decide) rfl (fun ls hl => ?_)
        refine lv_aload hx hb dX11_mark_54 (lv_at hl 1 rfl) ?_
        refine lv_iload_n hx hb dX11_mark_56 rfl (lv_at hl 3 rfl) ?_
        refine lv_iload hx hb dX11_mark_57 (lv_at hl 6 rfl) ?_
        refine lv_if_eq (tgt := 71) hx hb dX11_mark_59 (by decide) (fun c48 => ?_) (fun c48 => ?_)
        · have h := h.1 c48
          refine lv_iload hx hb dX11_mark_71 (lv_at hl 0 rfl) ?_
          refine lv_iconst (v := (1 : Int32)) hx hb dX11_mark_73 (by decide) ?_
          refine lv_iload_n hx hb dX11_mark_74 rfl (lv_at hl 4 rfl) ?_
          refine lv_ishl hx hb dX11_mark_75 ?_
          refine lv_iconst (v := (-1 : Int32)) hx hb dX11_mark_76 (by decide) ?_
          refine lv_ixor hx hb dX11_mark_77 ?_
          refine lv_iand hx hb dX11_mark_78 ?_
          obtain ⟨z49, h⟩ := h
          refine m_iast hx hb hK hw (by decide) z49 dX11_mark_79 (fun H locs hw => ?_)
          refine lv_aload_n hx hb dX11_mark_80 rfl (lv_at hl 2 rfl) ?_
          refine lv_iload hx hb dX11_mark_81 (lv_at hl 0 rfl) ?_
          refine lv_aload hx hb dX11_mark_83 (lv_at hl 1 rfl) ?_
          refine lv_iload_n hx hb dX11_mark_85 rfl (lv_at hl 3 rfl) ?_
          obtain ⟨z50, h⟩ := h
          refine m_iald hx hb hK hw (by decide) z50 dX11_mark_86 ?_
          refine lv_icmp_ne (tgt := 94) hx hb dX11_mark_87 (by decide) (fun c51 => ?_) (fun c51 => ?_)
          · have h := h.1 c51
            refine lv_iconst (v := (1 : Int32)) hx hb dX11_mark_94 (by decide) ?_
            refine M_calli hw (MA.up hw.2.2.1.1) (va_runV (own := "LeastreaderModel") (As := [.int (1 : Int32)]) (rest := []) ⟨hx, hb, hml, hown, ht⟩ (c_X11_did (tms μ43 2 a1.toNatClampNeg ((μ43 2 a1.toNatClampNeg) &&& (((1 : Int32) <<< (a2 &&& 31)) ^^^ (-1 : Int32)))) H.size (1 : Int32) h) (cwV 1 ht (G_V q_1364 q_1366 q_29 q_56 q_1367) rfl rfl rfl ⟨rfl, hd_95⟩ ⟨Nat.le_of_ble_eq_true rfl, Nat.le_of_ble_eq_true rfl⟩) ⟨MB.blind, M_recv hK hw, MB.pre hK hI hw va_P0 ne0⟩ rfl rfl hl.1 rfl (lv_room (Nat.le_of_ble_eq_true rfl)) dX11_mark_95 ⟨show 0 + 0 ≤ 0 by omega, show 0 + 0 ≤ 0 by omega⟩) (fun r53 μ52 H locs h hw => ?_)
            exact hret H locs ls 98 _ _ _ _ _ hw h rfl (show 0 ≤ 0 by omega) (show 0 ≤ 0 by omega) dX11_mark_98
          have h := h.2 c51
          refine lv_iconst (v := (0 : Int32)) hx hb dX11_mark_90 (by decide) ?_
          refine lv_goto (tgt := 95) hx hb dX11_mark_91 (by decide) ?_
          refine M_calli hw (MA.up hw.2.2.1.1) (va_runV (own := "LeastreaderModel") (As := [.int (0 : Int32)]) (rest := []) ⟨hx, hb, hml, hown, ht⟩ (c_X11_did (tms μ43 2 a1.toNatClampNeg ((μ43 2 a1.toNatClampNeg) &&& (((1 : Int32) <<< (a2 &&& 31)) ^^^ (-1 : Int32)))) H.size (0 : Int32) h) (cwV 1 ht (G_V q_1364 q_1366 q_29 q_56 q_1367) rfl rfl rfl ⟨rfl, hd_95⟩ ⟨Nat.le_of_ble_eq_true rfl, Nat.le_of_ble_eq_true rfl⟩) ⟨MB.blind, M_recv hK hw, MB.pre hK hI hw va_P0 ne0⟩ rfl rfl hl.1 rfl (lv_room (Nat.le_of_ble_eq_true rfl)) dX11_mark_95 ⟨show 0 + 0 ≤ 0 by omega, show 0 + 0 ≤ 0 by omega⟩) (fun r55 μ54 H locs h hw => ?_)
          exact hret H locs ls 98 _ _ _ _ _ hw h rfl (show 0 ≤ 0 by omega) (show 0 ≤ 0 by omega) dX11_mark_98
        have h := h.2 c48
        refine lv_iload hx hb dX11_mark_62 (lv_at hl 0 rfl) ?_
        refine lv_iconst (v := (1 : Int32)) hx hb dX11_mark_64 (by decide) ?_
        refine lv_iload_n hx hb dX11_mark_65 rfl (lv_at hl 4 rfl) ?_
        refine lv_ishl hx hb dX11_mark_66 ?_
        refine lv_ior hx hb dX11_mark_67 ?_
        refine lv_goto (tgt := 79) hx hb dX11_mark_68 (by decide) ?_
        obtain ⟨z56, h⟩ := h
        refine m_iast hx hb hK hw (by decide) z56 dX11_mark_79 (fun H locs hw => ?_)
        refine lv_aload_n hx hb dX11_mark_80 rfl (lv_at hl 2 rfl) ?_
        refine lv_iload hx hb dX11_mark_81 (lv_at hl 0 rfl) ?_
        refine lv_aload hx hb dX11_mark_83 (lv_at hl 1 rfl) ?_
        refine lv_iload_n hx hb dX11_mark_85 rfl (lv_at hl 3 rfl) ?_
        obtain ⟨z57, h⟩ := h
        refine m_iald hx hb hK hw (by decide) z57 dX11_mark_86 ?_
        refine lv_icmp_ne (tgt := 94) hx hb dX11_mark_87 (by decide) (fun c58 => ?_) (fun c58 => ?_)
        · have h := h.1 c58
          refine lv_iconst (v := (1 : Int32)) hx hb dX11_mark_94 (by decide) ?_
          refine M_calli hw (MA.up hw.2.2.1.1) (va_runV (own := "LeastreaderModel") (As := [.int (1 : Int32)]) (rest := []) ⟨hx, hb, hml, hown, ht⟩ (c_X11_did (tms μ43 2 a1.toNatClampNeg ((μ43 2 a1.toNatClampNeg) ||| ((1 : Int32) <<< (a2 &&& 31)))) H.size (1 : Int32) h) (cwV 1 ht (G_V q_1364 q_1366 q_29 q_56 q_1367) rfl rfl rfl ⟨rfl, hd_95⟩ ⟨Nat.le_of_ble_eq_true rfl, Nat.le_of_ble_eq_true rfl⟩) ⟨MB.blind, M_recv hK hw, MB.pre hK hI hw va_P0 ne0⟩ rfl rfl hl.1 rfl (lv_room (Nat.le_of_ble_eq_true rfl)) dX11_mark_95 ⟨show 0 + 0 ≤ 0 by omega, show 0 + 0 ≤ 0 by omega⟩) (fun r60 μ59 H locs h hw => ?_)
          exact hret H locs ls 98 _ _ _ _ _ hw h rfl (show 0 ≤ 0 by omega) (show 0 ≤ 0 by omega) dX11_mark_98
        have h := h.2 c58
        refine lv_iconst (v := (0 : Int32)) hx hb dX11_mark_90 (by decide) ?_
        refine lv_goto (tgt := 95) hx hb dX11_mark_91 (by decide) ?_
        refine M_calli hw (MA.up hw.2.2.1.1) (va_runV (own := "LeastreaderModel") (As := [.int (0 : Int32)]) (rest := []) ⟨hx, hb, hml, hown, ht⟩ (c_X11_did (tms μ43 2 a1.toNatClampNeg ((μ43 2 a1.toNatClampNeg) ||| ((1 : Int32) <<< (a2 &&& 31)))) H.size (0 : Int32) h) (cwV 1 ht (G_V q_1364 q_1366 q_29 q_56 q_1367) rfl rfl rfl ⟨rfl, hd_95⟩ ⟨Nat.le_of_ble_eq_true rfl, Nat.le_of_ble_eq_true rfl⟩) ⟨MB.blind, M_recv hK hw, MB.pre hK hI hw va_P0 ne0⟩ rfl rfl hl.1 rfl (lv_room (Nat.le_of_ble_eq_true rfl)) dX11_mark_95 ⟨show 0 + 0 ≤ 0 by omega, show 0 + 0 ≤ 0 by omega⟩) (fun r62 μ61 H locs h hw => ?_)
        exact hret H locs ls 98 _ _ _ _ _ hw h rfl (show 0 ≤ 0 by omega) (show 0 ≤ 0 by omega) dX11_mark_98
      have h := h.2 c46
      refine lv_aload_n hx hb dX11_mark_35 rfl (lv_at hl 0 rfl) ?_
      refine m_get (i := 2) hx hb ht hown hK hw (by decide) (ht _ q_1315) rfl rfl dX11_mark_36 ?_
      refine lv_goto (tgt := 46) hx hb dX11_mark_39 (by decide) ?_
      refine lv_astore (lv' := [(5, .ref (ad 3)), (0, .ref (ad 0)), (1, .int a1), (2, .int a2), (3, .int a3), (4, .int a4)]) hx hb dX11_mark_46 hl (by decide) rfl (fun ls hl => ?_)
      refine lv_aload hx hb dX11_mark_48 (lv_at hl 0 rfl) ?_
      refine lv_iload_n hx hb dX11_mark_50 rfl (lv_at hl 2 rfl) ?_
      obtain ⟨z63, h⟩ := h
      refine m_iald hx hb hK hw (by decide) z63 dX11_mark_51 ?_
      refine lv_istore (lv' := [(6, .int (μ43 3 a1.toNatClampNeg)), (5, .ref (ad 3)), (0, .ref (ad 0)), (1, .int a1), (2, .int a2), (3, .int a3), (4, .int a4)]) hx hb dX11_mark_52 hl (by decide) rfl (fun ls hl => ?_)
      refine lv_aload hx hb dX11_mark_54 (lv_at hl 1 rfl) ?_
      refine lv_iload_n hx hb dX11_mark_56 rfl (lv_at hl 3 rfl) ?_
      refine lv_iload hx hb dX11_mark_57 (lv_at hl 6 rfl) ?_
      refine lv_if_eq (tgt := 71) hx hb dX11_mark_59 (by decide) (fun c64 => ?_) (fun c64 => ?_)
      · have h := h.1 c64
        refine lv_iload hx hb dX11_mark_71 (lv_at hl 0 rfl) ?_
        refine lv_iconst (v := (1 : Int32)) hx hb dX11_mark_73 (by decide) ?_
        refine lv_iload_n hx hb dX11_mark_74 rfl (lv_at hl 4 rfl) ?_
        refine lv_ishl hx hb dX11_mark_75 ?_
        refine lv_iconst (v := (-1 : Int32)) hx hb dX11_mark_76 (by decide) ?_
        refine lv_ixor hx hb dX11_mark_77 ?_
        refine lv_iand hx hb dX11_mark_78 ?_
        obtain ⟨z65, h⟩ := h
        refine m_iast hx hb hK hw (by decide) z65 dX11_mark_79 (fun H locs hw => ?_)
        refine lv_aload_n hx hb dX11_mark_80 rfl (lv_at hl 2 rfl) ?_
        refine lv_iload hx hb dX11_mark_81 (lv_at hl 0 rfl) ?_
        refine lv_aload hx hb dX11_mark_83 (lv_at hl 1 rfl) ?_
        refine lv_iload_n hx hb dX11_mark_85 rfl (lv_at hl 3 rfl) ?_
        obtain ⟨z66, h⟩ := h
        refine m_iald hx hb hK hw (by decide) z66 dX11_mark_86 ?_
        refine lv_icmp_ne (tgt := 94) hx hb dX11_mark_87 (by decide) (fun c67 => ?_) (fun c67 => ?_)
        · have h := h.1 c67
          refine lv_iconst (v := (1 : Int32)) hx hb dX11_mark_94 (by decide) ?_
          refine M_calli hw (MA.up hw.2.2.1.1) (va_runV (own := "LeastreaderModel") (As := [.int (1 : Int32)]) (rest := []) ⟨hx, hb, hml, hown, ht⟩ (c_X11_did (tms μ43 3 a1.toNatClampNeg ((μ43 3 a1.toNatClampNeg) &&& (((1 : Int32) <<< (a2 &&& 31)) ^^^ (-1 : Int32)))) H.size (1 : Int32) h) (cwV 1 ht (G_V q_1364 q_1366 q_29 q_56 q_1367) rfl rfl rfl ⟨rfl, hd_95⟩ ⟨Nat.le_of_ble_eq_true rfl, Nat.le_of_ble_eq_true rfl⟩) ⟨MB.blind, M_recv hK hw, MB.pre hK hI hw va_P0 ne0⟩ rfl rfl hl.1 rfl (lv_room (Nat.le_of_ble_eq_true rfl)) dX11_mark_95 ⟨show 0 + 0 ≤ 0 by omega, show 0 + 0 ≤ 0 by omega⟩) (fun r69 μ68 H locs h hw => ?_)
          exact hret H locs ls 98 _ _ _ _ _ hw h rfl (show 0 ≤ 0 by omega) (show 0 ≤ 0 by omega) dX11_mark_98
        have h := h.2 c67
        refine lv_iconst (v := (0 : Int32)) hx hb dX11_mark_90 (by decide) ?_
        refine lv_goto (tgt := 95) hx hb dX11_mark_91 (by decide) ?_
        refine M_calli hw (MA.up hw.2.2.1.1) (va_runV (own := "LeastreaderModel") (As := [.int (0 : Int32)]) (rest := []) ⟨hx, hb, hml, hown, ht⟩ (c_X11_did (tms μ43 3 a1.toNatClampNeg ((μ43 3 a1.toNatClampNeg) &&& (((1 : Int32) <<< (a2 &&& 31)) ^^^ (-1 : Int32)))) H.size (0 : Int32) h) (cwV 1 ht (G_V q_1364 q_1366 q_29 q_56 q_1367) rfl rfl rfl ⟨rfl, hd_95⟩ ⟨Nat.le_of_ble_eq_true rfl, Nat.le_of_ble_eq_true rfl⟩) ⟨MB.blind, M_recv hK hw, MB.pre hK hI hw va_P0 ne0⟩ rfl rfl hl.1 rfl (lv_room (Nat.le_of_ble_eq_true rfl)) dX11_mark_95 ⟨show 0 + 0 ≤ 0 by omega, show 0 + 0 ≤ 0 by omega⟩) (fun r71 μ70 H locs h hw => ?_)
        exact hret H locs ls 98 _ _ _ _ _ hw h rfl (show 0 ≤ 0 by omega) (show 0 ≤ 0 by omega) dX11_mark_98
      have h := h.2 c64
      refine lv_iload hx hb dX11_mark_62 (lv_at hl 0 rfl) ?_
      refine lv_iconst (v := (1 : Int32)) hx hb dX11_mark_64 (by decide) ?_
      refine lv_iload_n hx hb dX11_mark_65 rfl (lv_at hl 4 rfl) ?_
      refine lv_ishl hx hb dX11_mark_66 ?_
      refine lv_ior hx hb dX11_mark_67 ?_
      refine lv_goto (tgt := 79) hx hb dX11_mark_68 (by decide) ?_
      obtain ⟨z72, h⟩ := h
      refine m_iast hx hb hK hw (by decide) z72 dX11_mark_79 (fun H locs hw => ?_)
      refine lv_aload_n hx hb dX11_mark_80 rfl (lv_at hl 2 rfl) ?_
      refine lv_iload hx hb dX11_mark_81 (lv_at hl 0 rfl) ?_
      refine lv_aload hx hb dX11_mark_83 (lv_at hl 1 rfl) ?_
      refine lv_iload_n hx hb dX11_mark_85 rfl (lv_at hl 3 rfl) ?_
      obtain ⟨z73, h⟩ := h
      refine m_iald hx hb hK hw (by decide) z73 dX11_mark_86 ?_
      refine lv_icmp_ne (tgt := 94) hx hb dX11_mark_87 (by decide) (fun c74 => ?_) (fun c74 => ?_)
      · have h := h.1 c74
        refine lv_iconst (v := (1 : Int32)) hx hb dX11_mark_94 (by decide) ?_
        refine M_calli hw (MA.up hw.2.2.1.1) (va_runV (own := "LeastreaderModel") (As := [.int (1 : Int32)]) (rest := []) ⟨hx, hb, hml, hown, ht⟩ (c_X11_did (tms μ43 3 a1.toNatClampNeg ((μ43 3 a1.toNatClampNeg) ||| ((1 : Int32) <<< (a2 &&& 31)))) H.size (1 : Int32) h) (cwV 1 ht (G_V q_1364 q_1366 q_29 q_56 q_1367) rfl rfl rfl ⟨rfl, hd_95⟩ ⟨Nat.le_of_ble_eq_true rfl, Nat.le_of_ble_eq_true rfl⟩) ⟨MB.blind, M_recv hK hw, MB.pre hK hI hw va_P0 ne0⟩ rfl rfl hl.1 rfl (lv_room (Nat.le_of_ble_eq_true rfl)) dX11_mark_95 ⟨show 0 + 0 ≤ 0 by omega, show 0 + 0 ≤ 0 by omega⟩) (fun r76 μ75 H locs h hw => ?_)
        exact hret H locs ls 98 _ _ _ _ _ hw h rfl (show 0 ≤ 0 by omega) (show 0 ≤ 0 by omega) dX11_mark_98
      have h := h.2 c74
      refine lv_iconst (v := (0 : Int32)) hx hb dX11_mark_90 (by decide) ?_
      refine lv_goto (tgt := 95) hx hb dX11_mark_91 (by decide) ?_
      refine M_calli hw (MA.up hw.2.2.1.1) (va_runV (own := "LeastreaderModel") (As := [.int (0 : Int32)]) (rest := []) ⟨hx, hb, hml, hown, ht⟩ (c_X11_did (tms μ43 3 a1.toNatClampNeg ((μ43 3 a1.toNatClampNeg) ||| ((1 : Int32) <<< (a2 &&& 31)))) H.size (0 : Int32) h) (cwV 1 ht (G_V q_1364 q_1366 q_29 q_56 q_1367) rfl rfl rfl ⟨rfl, hd_95⟩ ⟨Nat.le_of_ble_eq_true rfl, Nat.le_of_ble_eq_true rfl⟩) ⟨MB.blind, M_recv hK hw, MB.pre hK hI hw va_P0 ne0⟩ rfl rfl hl.1 rfl (lv_room (Nat.le_of_ble_eq_true rfl)) dX11_mark_95 ⟨show 0 + 0 ≤ 0 by omega, show 0 + 0 ≤ 0 by omega⟩) (fun r78 μ77 H locs h hw => ?_)
      exact hret H locs ls 98 _ _ _ _ _ hw h rfl (show 0 ≤ 0 by omega) (show 0 ≤ 0 by omega) dX11_mark_98
    have h := h.2 c45
    refine lv_iconst (v := (0 : Int32)) hx hb dX11_mark_29 (by decide) ?_
    exact hret H locs ls 30 _ _ _ _ _ hw h rfl (show 0 ≤ 0 by omega) (show 0 ≤ 0 by omega) dX11_mark_30
  have h := h.2 c42
  refine lv_iconst (v := (1 : Int32)) hx hb dX11_mark_17 (by decide) ?_
  refine lv_goto (tgt := 22) hx hb dX11_mark_18 (by decide) ?_
  refine lv_iconst (v := (1 : Int32)) hx hb dX11_mark_22 (by decide) ?_
  refine M_calli hw (MA.up hw.2.2.1.1) (va_runV (own := "LeastreaderModel") (As := [.int (1 : Int32), .int (1 : Int32)]) (rest := []) ⟨hx, hb, hml, hown, ht⟩ (c_X11_isThrown μ H.size (1 : Int32) (1 : Int32) h) (cwV 2 ht (G_V q_1348 q_1350 q_26 q_56 q_1351) rfl rfl rfl ⟨rfl, hd_92⟩ ⟨Nat.le_of_ble_eq_true rfl, Nat.le_of_ble_eq_true rfl⟩) ⟨MB.blind, M_recv hK hw, MB.pre hK hI hw va_P0 ne0⟩ rfl rfl hl.1 rfl (lv_room (Nat.le_of_ble_eq_true rfl)) dX11_mark_23 ⟨show 0 + 0 ≤ 0 by omega, show 0 + 0 ≤ 0 by omega⟩) (fun r80 μ79 H locs h hw => ?_)
  refine lv_if_eq (tgt := 31) hx hb dX11_mark_26 (by decide) (fun c81 => ?_) (fun c81 => ?_)
  · have h := h.1 c81
    refine lv_iload_n hx hb dX11_mark_31 rfl (lv_at hl 3 rfl) ?_
    refine lv_if_eq (tgt := 42) hx hb dX11_mark_32 (by decide) (fun c82 => ?_) (fun c82 => ?_)
    · have h := h.1 c82
      refine lv_aload_n hx hb dX11_mark_42 rfl (lv_at hl 0 rfl) ?_
      refine m_get (i := 1) hx hb ht hown hK hw (by decide) (ht _ q_1314) rfl rfl dX11_mark_43 ?_
      refine lv_astore (lv' := [(5, .ref (ad 2)), (0, .ref (ad 0)), (1, .int a1), (2, .int a2), (3, .int a3), (4, .int a4)]) hx hb dX11_mark_46 hl (by decide) rfl (fun ls hl => ?_)
      refine lv_aload hx hb dX11_mark_48 (lv_at hl 0 rfl) ?_
      refine lv_iload_n hx hb dX11_mark_50 rfl (lv_at hl 2 rfl) ?_
      obtain ⟨z83, h⟩ := h
      refine m_iald hx hb hK hw (by decide) z83 dX11_mark_51 ?_
      refine lv_istore (lv' := [(6, .int (μ79 2 a1.toNatClampNeg)), (5, .ref (ad 2)), (0, .ref (ad 0)), (1, .int a1), (2, .int a2), (3, .int a3), (4, .int a4)]) hx hb dX11_mark_52 hl (by decide) rfl (fun ls hl => ?_)
      refine lv_aload hx hb dX11_mark_54 (lv_at hl 1 rfl) ?_
      refine lv_iload_n hx hb dX11_mark_56 rfl (lv_at hl 3 rfl) ?_
      refine lv_iload hx hb dX11_mark_57 (lv_at hl 6 rfl) ?_
      refine lv_if_eq (tgt := 71) hx hb dX11_mark_59 (by decide) (fun c84 => ?_) (fun c84 => ?_)
      · have h := h.1 c84
        refine lv_iload hx hb dX11_mark_71 (lv_at hl 0 rfl) ?_
        refine lv_iconst (v := (1 : Int32)) hx hb dX11_mark_73 (by decide) ?_
        refine lv_iload_n hx hb dX11_mark_74 rfl (lv_at hl 4 rfl) ?_
        refine lv_ishl hx hb dX11_mark_75 ?_
        refine lv_iconst (v := (-1 : Int32)) hx hb dX11_mark_76 (by decide) ?_
        refine lv_ixor hx hb dX11_mark_77 ?_
        refine lv_iand hx hb dX11_mark_78 ?_
        obtain ⟨z85, h⟩ := h
        refine m_iast hx hb hK hw (by decide) z85 dX11_mark_79 (fun H locs hw => ?_)
        refine lv_aload_n hx hb dX11_mark_80 rfl (lv_at hl 2 rfl) ?_
        refine lv_iload hx hb dX11_mark_81 (lv_at hl 0 rfl) ?_
        refine lv_aload hx hb dX11_mark_83 (lv_at hl 1 rfl) ?_
        refine lv_iload_n hx hb dX11_mark_85 rfl (lv_at hl 3 rfl) ?_
        obtain ⟨z86, h⟩ := h
        refine m_iald hx hb hK hw (by decide) z86 dX11_mark_86 ?_
        refine lv_icmp_ne (tgt := 94) hx hb dX11_mark_87 (by decide) (fun c87 => ?_) (fun c87 => ?_)
        · have h := h.1 c87
          refine lv_iconst (v := (1 : Int32)) hx hb dX11_mark_94 (by decide) ?_
          refine M_calli hw (MA.up hw.2.2.1.1) (va_runV (own := "LeastreaderModel") (As := [.int (1 : Int32)]) (rest := []) ⟨hx, hb, hml, hown, ht⟩ (c_X11_did (tms μ79 2 a1.toNatClampNeg ((μ79 2 a1.toNatClampNeg) &&& (((1 : Int32) <<< (a2 &&& 31)) ^^^ (-1 : Int32)))) H.size (1 : Int32) h) (cwV 1 ht (G_V q_1364 q_1366 q_29 q_56 q_1367) rfl rfl rfl ⟨rfl, hd_95⟩ ⟨Nat.le_of_ble_eq_true rfl, Nat.le_of_ble_eq_true rfl⟩) ⟨MB.blind, M_recv hK hw, MB.pre hK hI hw va_P0 ne0⟩ rfl rfl hl.1 rfl (lv_room (Nat.le_of_ble_eq_true rfl)) dX11_mark_95 ⟨show 0 + 0 ≤ 0 by omega, show 0 + 0 ≤ 0 by omega⟩) (fun r89 μ88 H locs h hw => ?_)
          exact hret H locs ls 98 _ _ _ _ _ hw h rfl (show 0 ≤ 0 by omega) (show 0 ≤ 0 by omega) dX11_mark_98
        have h := h.2 c87
        refine lv_iconst (v := (0 : Int32)) hx hb dX11_mark_90 (by decide) ?_
        refine lv_goto (tgt := 95) hx hb dX11_mark_91 (by decide) ?_
        refine M_calli hw (MA.up hw.2.2.1.1) (va_runV (own := "LeastreaderModel") (As := [.int (0 : Int32)]) (rest := []) ⟨hx, hb, hml, hown, ht⟩ (c_X11_did (tms μ79 2 a1.toNatClampNeg ((μ79 2 a1.toNatClampNeg) &&& (((1 : Int32) <<< (a2 &&& 31)) ^^^ (-1 : Int32)))) H.size (0 : Int32) h) (cwV 1 ht (G_V q_1364 q_1366 q_29 q_56 q_1367) rfl rfl rfl ⟨rfl, hd_95⟩ ⟨Nat.le_of_ble_eq_true rfl, Nat.le_of_ble_eq_true rfl⟩) ⟨MB.blind, M_recv hK hw, MB.pre hK hI hw va_P0 ne0⟩ rfl rfl hl.1 rfl (lv_room (Nat.le_of_ble_eq_true rfl)) dX11_mark_95 ⟨show 0 + 0 ≤ 0 by omega, show 0 + 0 ≤ 0 by omega⟩) (fun r91 μ90 H locs h hw => ?_)
        exact hret H locs ls 98 _ _ _ _ _ hw h rfl (show 0 ≤ 0 by omega) (show 0 ≤ 0 by omega) dX11_mark_98
      have h := h.2 c84
      refine lv_iload hx hb dX11_mark_62 (lv_at hl 0 rfl) ?_
      refine lv_iconst (v := (1 : Int32)) hx hb dX11_mark_64 (by decide) ?_
      refine lv_iload_n hx hb dX11_mark_65 rfl (lv_at hl 4 rfl) ?_
      refine lv_ishl hx hb dX11_mark_66 ?_
      refine lv_ior hx hb dX11_mark_67 ?_
      refine lv_goto (tgt := 79) hx hb dX11_mark_68 (by decide) ?_
      obtain ⟨z92, h⟩ := h
      refine m_iast hx hb hK hw (by decide) z92 dX11_mark_79 (fun H locs hw => ?_)
      refine lv_aload_n hx hb dX11_mark_80 rfl (lv_at hl 2 rfl) ?_
      refine lv_iload hx hb dX11_mark_81 (lv_at hl 0 rfl) ?_
      refine lv_aload hx hb dX11_mark_83 (lv_at hl 1 rfl) ?_
      refine lv_iload_n hx hb dX11_mark_85 rfl (lv_at hl 3 rfl) ?_
      obtain ⟨z93, h⟩ := h
      refine m_iald hx hb hK hw (by decide) z93 dX11_mark_86 ?_
      refine lv_icmp_ne (tgt := 94) hx hb dX11_mark_87 (by decide) (fun c94 => ?_) (fun c94 => ?_)
      · have h := h.1 c94
        refine lv_iconst (v := (1 : Int32)) hx hb dX11_mark_94 (by decide) ?_
        refine M_calli hw (MA.up hw.2.2.1.1) (va_runV (own := "LeastreaderModel") (As := [.int (1 : Int32)]) (rest := []) ⟨hx, hb, hml, hown, ht⟩ (c_X11_did (tms μ79 2 a1.toNatClampNeg ((μ79 2 a1.toNatClampNeg) ||| ((1 : Int32) <<< (a2 &&& 31)))) H.size (1 : Int32) h) (cwV 1 ht (G_V q_1364 q_1366 q_29 q_56 q_1367) rfl rfl rfl ⟨rfl, hd_95⟩ ⟨Nat.le_of_ble_eq_true rfl, Nat.le_of_ble_eq_true rfl⟩) ⟨MB.blind, M_recv hK hw, MB.pre hK hI hw va_P0 ne0⟩ rfl rfl hl.1 rfl (lv_room (Nat.le_of_ble_eq_true rfl)) dX11_mark_95 ⟨show 0 + 0 ≤ 0 by omega, show 0 + 0 ≤ 0 by omega⟩) (fun r96 μ95 H locs h hw => ?_)
        exact hret H locs ls 98 _ _ _ _ _ hw h rfl (show 0 ≤ 0 by omega) (show 0 ≤ 0 by omega) dX11_mark_98
      have h := h.2 c94
      refine lv_iconst (v := (0 : Int32)) hx hb dX11_mark_90 (by decide) ?_
      refine lv_goto (tgt := 95) hx hb dX11_mark_91 (by decide) ?_
      refine M_calli hw (MA.up hw.2.2.1.1) (va_runV (own := "LeastreaderModel") (As := [.int (0 : Int32)]) (rest := []) ⟨hx, hb, hml, hown, ht⟩ (c_X11_did (tms μ79 2 a1.toNatClampNeg ((μ79 2 a1.toNatClampNeg) ||| ((1 : Int32) <<< (a2 &&& 31)))) H.size (0 : Int32) h) (cwV 1 ht (G_V q_1364 q_1366 q_29 q_56 q_1367) rfl rfl rfl ⟨rfl, hd_95⟩ ⟨Nat.le_of_ble_eq_true rfl, Nat.le_of_ble_eq_true rfl⟩) ⟨MB.blind, M_recv hK hw, MB.pre hK hI hw va_P0 ne0⟩ rfl rfl hl.1 rfl (lv_room (Nat.le_of_ble_eq_true rfl)) dX11_mark_95 ⟨show 0 + 0 ≤ 0 by omega, show 0 + 0 ≤ 0 by omega⟩) (fun r98 μ97 H locs h hw => ?_)
      exact hret H locs ls 98 _ _ _ _ _ hw h rfl (show 0 ≤ 0 by omega) (show 0 ≤ 0 by omega) dX11_mark_98
    have h := h.2 c82
    refine lv_aload_n hx hb dX11_mark_35 rfl (lv_at hl 0 rfl) ?_
    refine m_get (i := 2) hx hb ht hown hK hw (by decide) (ht _ q_1315) rfl rfl dX11_mark_36 ?_
    refine lv_goto (tgt := 46) hx hb dX11_mark_39 (by decide) ?_
    refine lv_astore (lv' := [(5, .ref (ad 3)), (0, .ref (ad 0)), (1, .int a1), (2, .int a2), (3, .int a3), (4, .int a4)]) hx hb dX11_mark_46 hl (by decide) rfl (fun ls hl => ?_)
    refine lv_aload hx hb dX11_mark_48 (lv_at hl 0 rfl) ?_
    refine lv_iload_n hx hb dX11_mark_50 rfl (lv_at hl 2 rfl) ?_
    obtain ⟨z99, h⟩ := h
    refine m_iald hx hb hK hw (by decide) z99 dX11_mark_51 ?_
    refine lv_istore (lv' := [(6, .int (μ79 3 a1.toNatClampNeg)), (5, .ref (ad 3)), (0, .ref (ad 0)), (1, .int a1), (2, .int a2), (3, .int a3), (4, .int a4)]) hx hb dX11_mark_52 hl (by decide) rfl (fun ls hl => ?_)
    refine lv_aload hx hb dX11_mark_54 (lv_at hl 1 rfl) ?_
    refine lv_iload_n hx hb dX11_mark_56 rfl (lv_at hl 3 rfl) ?_
    refine lv_iload hx hb dX11_mark_57 (lv_at hl 6 rfl) ?_
    refine lv_if_eq (tgt := 71) hx hb dX11_mark_59 (by decide) (fun c100 => ?_) (fun c100 => ?_)
    · have h := h.1 c100
      refine lv_iload hx hb dX11_mark_71 (lv_at hl 0 rfl) ?_
      refine lv_iconst (v := (1 : Int32)) hx hb dX11_mark_73 (by decide) ?_
      refine lv_iload_n hx hb dX11_mark_74 rfl (lv_at hl 4 rfl) ?_
      refine lv_ishl hx hb dX11_mark_75 ?_
      refine lv_iconst (v := (-1 : Int32)) hx hb dX11_mark_76 (by decide) ?_
      refine lv_ixor hx hb dX11_mark_77 ?_
      refine lv_iand hx hb dX11_mark_78 ?_
      obtain ⟨z101, h⟩ := h
      refine m_iast hx hb hK hw (by decide) z101 dX11_mark_79 (fun H locs hw => ?_)
      refine lv_aload_n hx hb dX11_mark_80 rfl (lv_at hl 2 rfl) ?_
      refine lv_iload hx hb dX11_mark_81 (lv_at hl 0 rfl) ?_
      refine lv_aload hx hb dX11_mark_83 (lv_at hl 1 rfl) ?_
      refine lv_iload_n hx hb dX11_mark_85 rfl (lv_at hl 3 rfl) ?_
      obtain ⟨z102, h⟩ := h
      refine m_iald hx hb hK hw (by decide) z102 dX11_mark_86 ?_
      refine lv_icmp_ne (tgt := 94) hx hb dX11_mark_87 (by decide) (fun c103 => ?_) (fun c103 => ?_)
      · have h := h.1 c103
        refine lv_iconst (v := (1 : Int32)) hx hb dX11_mark_94 (by decide) ?_
        refine M_calli hw (MA.up hw.2.2.1.1) (va_runV (own := "LeastreaderModel") (As := [.int (1 : Int32)]) (rest := []) ⟨hx, hb, hml, hown, ht⟩ (c_X11_did (tms μ79 3 a1.toNatClampNeg ((μ79 3 a1.toNatClampNeg) &&& (((1 : Int32) <<< (a2 &&& 31)) ^^^ (-1 : Int32)))) H.size (1 : Int32) h) (cwV 1 ht (G_V q_1364 q_1366 q_29 q_56 q_1367) rfl rfl rfl ⟨rfl, hd_95⟩ ⟨Nat.le_of_ble_eq_true rfl, Nat.le_of_ble_eq_true rfl⟩) ⟨MB.blind, M_recv hK hw, MB.pre hK hI hw va_P0 ne0⟩ rfl rfl hl.1 rfl (lv_room (Nat.le_of_ble_eq_true rfl)) dX11_mark_95 ⟨show 0 + 0 ≤ 0 by omega, show 0 + 0 ≤ 0 by omega⟩) (fun r105 μ104 H locs h hw => ?_)
        exact hret H locs ls 98 _ _ _ _ _ hw h rfl (show 0 ≤ 0 by omega) (show 0 ≤ 0 by omega) dX11_mark_98
      have h := h.2 c103
      refine lv_iconst (v := (0 : Int32)) hx hb dX11_mark_90 (by decide) ?_
      refine lv_goto (tgt := 95) hx hb dX11_mark_91 (by decide) ?_
      refine M_calli hw (MA.up hw.2.2.1.1) (va_runV (own := "LeastreaderModel") (As := [.int (0 : Int32)]) (rest := []) ⟨hx, hb, hml, hown, ht⟩ (c_X11_did (tms μ79 3 a1.toNatClampNeg ((μ79 3 a1.toNatClampNeg) &&& (((1 : Int32) <<< (a2 &&& 31)) ^^^ (-1 : Int32)))) H.size (0 : Int32) h) (cwV 1 ht (G_V q_1364 q_1366 q_29 q_56 q_1367) rfl rfl rfl ⟨rfl, hd_95⟩ ⟨Nat.le_of_ble_eq_true rfl, Nat.le_of_ble_eq_true rfl⟩) ⟨MB.blind, M_recv hK hw, MB.pre hK hI hw va_P0 ne0⟩ rfl rfl hl.1 rfl (lv_room (Nat.le_of_ble_eq_true rfl)) dX11_mark_95 ⟨show 0 + 0 ≤ 0 by omega, show 0 + 0 ≤ 0 by omega⟩) (fun r107 μ106 H locs h hw => ?_)
      exact hret H locs ls 98 _ _ _ _ _ hw h rfl (show 0 ≤ 0 by omega) (show 0 ≤ 0 by omega) dX11_mark_98
    have h := h.2 c100
    refine lv_iload hx hb dX11_mark_62 (lv_at hl 0 rfl) ?_
    refine lv_iconst (v := (1 : Int32)) hx hb dX11_mark_64 (by decide) ?_
    refine lv_iload_n hx hb dX11_mark_65 rfl (lv_at hl 4 rfl) ?_
    refine lv_ishl hx hb dX11_mark_66 ?_
    refine lv_ior hx hb dX11_mark_67 ?_
    refine lv_goto (tgt := 79) hx hb dX11_mark_68 (by decide) ?_
    obtain ⟨z108, h⟩ := h
    refine m_iast hx hb hK hw (by decide) z108 dX11_mark_79 (fun H locs hw => ?_)
    refine lv_aload_n hx hb dX11_mark_80 rfl (lv_at hl 2 rfl) ?_
    refine lv_iload hx hb dX11_mark_81 (lv_at hl 0 rfl) ?_
    refine lv_aload hx hb dX11_mark_83 (lv_at hl 1 rfl) ?_
    refine lv_iload_n hx hb dX11_mark_85 rfl (lv_at hl 3 rfl) ?_
    obtain ⟨z109, h⟩ := h
    refine m_iald hx hb hK hw (by decide) z109 dX11_mark_86 ?_
    refine lv_icmp_ne (tgt := 94) hx hb dX11_mark_87 (by decide) (fun c110 => ?_) (fun c110 => ?_)
    · have h := h.1 c110
      refine lv_iconst (v := (1 : Int32)) hx hb dX11_mark_94 (by decide) ?_
      refine M_calli hw (MA.up hw.2.2.1.1) (va_runV (own := "LeastreaderModel") (As := [.int (1 : Int32)]) (rest := []) ⟨hx, hb, hml, hown, ht⟩ (c_X11_did (tms μ79 3 a1.toNatClampNeg ((μ79 3 a1.toNatClampNeg) ||| ((1 : Int32) <<< (a2 &&& 31)))) H.size (1 : Int32) h) (cwV 1 ht (G_V q_1364 q_1366 q_29 q_56 q_1367) rfl rfl rfl ⟨rfl, hd_95⟩ ⟨Nat.le_of_ble_eq_true rfl, Nat.le_of_ble_eq_true rfl⟩) ⟨MB.blind, M_recv hK hw, MB.pre hK hI hw va_P0 ne0⟩ rfl rfl hl.1 rfl (lv_room (Nat.le_of_ble_eq_true rfl)) dX11_mark_95 ⟨show 0 + 0 ≤ 0 by omega, show 0 + 0 ≤ 0 by omega⟩) (fun r112 μ111 H locs h hw => ?_)
      exact hret H locs ls 98 _ _ _ _ _ hw h rfl (show 0 ≤ 0 by omega) (show 0 ≤ 0 by omega) dX11_mark_98
    have h := h.2 c110
    refine lv_iconst (v := (0 : Int32)) hx hb dX11_mark_90 (by decide) ?_
    refine lv_goto (tgt := 95) hx hb dX11_mark_91 (by decide) ?_
    refine M_calli hw (MA.up hw.2.2.1.1) (va_runV (own := "LeastreaderModel") (As := [.int (0 : Int32)]) (rest := []) ⟨hx, hb, hml, hown, ht⟩ (c_X11_did (tms μ79 3 a1.toNatClampNeg ((μ79 3 a1.toNatClampNeg) ||| ((1 : Int32) <<< (a2 &&& 31)))) H.size (0 : Int32) h) (cwV 1 ht (G_V q_1364 q_1366 q_29 q_56 q_1367) rfl rfl rfl ⟨rfl, hd_95⟩ ⟨Nat.le_of_ble_eq_true rfl, Nat.le_of_ble_eq_true rfl⟩) ⟨MB.blind, M_recv hK hw, MB.pre hK hI hw va_P0 ne0⟩ rfl rfl hl.1 rfl (lv_room (Nat.le_of_ble_eq_true rfl)) dX11_mark_95 ⟨show 0 + 0 ≤ 0 by omega, show 0 + 0 ≤ 0 by omega⟩) (fun r114 μ113 H locs h hw => ?_)
    exact hret H locs ls 98 _ _ _ _ _ hw h rfl (show 0 ≤ 0 by omega) (show 0 ≤ 0 by omega) dX11_mark_98
  have h := h.2 c81
  refine lv_iconst (v := (0 : Int32)) hx hb dX11_mark_29 (by decide) ?_
  exact hret H locs ls 30 _ _ _ _ _ hw h rfl (show 0 ≤ 0 by omega) (show 0 ≤ 0 by omega) dX11_mark_30
end
/-! part 68.r7 -/
section
def wpl_X11_sow_79 (v28 : Int32) (v29 : Int32) (v31 : Int32) (v32 : Int32) (v33 : Int32) (K178 : Int32 → TMem → Prop) : Nat → Int32 → Int32 → TMem → Prop
  | 0, _, _, _ => False
  | n + 1, v27, v30, μ34 =>
    ∀ J35 : Int32 → Prop, (∀ (j36 : Int32), ((j36 ≤ v27 → (K178 v30 μ34)) ∧ (¬ j36 ≤ v27 → ((¬ v33 = 0 → (¬ (v33 + (1 : Int32)) = 0 ∧ ((¬ (((((v30 * (25173 : Int32)) + (13849 : Int32)) - ((v30 * (25173 : Int32)) + (13849 : Int32)) / (65536 : Int32) * (65536 : Int32)) / (64 : Int32)) - ((((v30 * (25173 : Int32)) + (13849 : Int32)) - ((v30 * (25173 : Int32)) + (13849 : Int32)) / (65536 : Int32) * (65536 : Int32)) / (64 : Int32)) / (v33 + (1 : Int32)) * (v33 + (1 : Int32))) = 0 → (wpl_X11_sow_79 v28 v29 v31 v32 v33 K178 n (v27 + (1 : Int32)) (((v30 * (25173 : Int32)) + (13849 : Int32)) - ((v30 * (25173 : Int32)) + (13849 : Int32)) / (65536 : Int32) * (65536 : Int32)) μ34)) ∧ ((((((v30 * (25173 : Int32)) + (13849 : Int32)) - ((v30 * (25173 : Int32)) + (13849 : Int32)) / (65536 : Int32) * (65536 : Int32)) / (64 : Int32)) - ((((v30 * (25173 : Int32)) + (13849 : Int32)) - ((v30 * (25173 : Int32)) + (13849 : Int32)) / (65536 : Int32) * (65536 : Int32)) / (64 : Int32)) / (v33 + (1 : Int32)) * (v33 + (1 : Int32))) = 0 → (wp_X11_key v31 v29 v28 (fun (r41 : Int32) => vp_in r41 (ml 4) ∧ (vp_in r41 (ml 4) ∧ (wpl_X11_sow_79 v28 v29 v31 v32 v33 K178 n (v27 + (1 : Int32)) (((v30 * (25173 : Int32)) + (13849 : Int32)) - ((v30 * (25173 : Int32)) + (13849 : Int32)) / (65536 : Int32) * (65536 : Int32)) (tms μ34 4 r41.toNatClampNeg ((μ34 4 r41.toNatClampNeg) ||| ((1 : Int32) <<< (v27 &&& 31)))))))))))) ∧ (v33 = 0 → (wp_X11_key v31 v29 v28 (fun (r44 : Int32) => ¬ v32 = 0 ∧ (vp_in r44 (ml 4) ∧ (wpl_X11_sow_79 v28 v29 v31 v32 v33 K178 n (v27 + (1 : Int32)) (((v30 * (25173 : Int32)) + (13849 : Int32)) - ((v30 * (25173 : Int32)) + (13849 : Int32)) / (65536 : Int32) * (65536 : Int32)) (tms μ34 4 r44.toNatClampNeg ((1 : Int32) <<< ((((((v30 * (25173 : Int32)) + (13849 : Int32)) - ((v30 * (25173 : Int32)) + (13849 : Int32)) / (65536 : Int32) * (65536 : Int32)) / (64 : Int32)) - ((((v30 * (25173 : Int32)) + (13849 : Int32)) - ((v30 * (25173 : Int32)) + (13849 : Int32)) / (65536 : Int32) * (65536 : Int32)) / (64 : Int32)) / v32 * v32) &&& 31))))))))))) → J35 j36) → ((¬ v33 = 0 → (J35 v32)) ∧ (v33 = 0 → (J35 (1 : Int32))))
def wpl_X11_sow_70 (v19 : Int32) (v21 : Int32) (v22 : Int32) (v23 : Int32) (K184 : Int32 → TMem → Prop) : Nat → Int32 → Int32 → TMem → Prop
  | 0, _, _, _ => False
  | n + 1, v18, v20, μ24 =>
    ((3 : Int32) ≤ v18 → (K184 v20 μ24)) ∧ (¬ (3 : Int32) ≤ v18 → (∃ n25x, wpl_X11_sow_79 v18 v19 v21 v22 v23 (fun (u49 : Int32) (μ50 : TMem) => wpl_X11_sow_70 v19 v21 v22 v23 K184 n (v18 + (1 : Int32)) u49 μ50) n25x (0 : Int32) v20 μ24))
def wpl_X11_sow_61 (v12 : Int32) (v13 : Int32) (v14 : Int32) (K190 : Int32 → TMem → Prop) : Nat → Int32 → Int32 → TMem → Prop
  | 0, _, _, _ => False
  | n + 1, v10, v11, μ15 =>
    (v13 ≤ v10 → (K190 v11 μ15)) ∧ (¬ v13 ≤ v10 → (∃ n16x, wpl_X11_sow_70 v10 v12 v13 v14 (fun (u52 : Int32) (μ53 : TMem) => wpl_X11_sow_61 v12 v13 v14 K190 n (v10 + (1 : Int32)) u52 μ53) n16x (0 : Int32) v11 μ15))
def wpl_X11_sow_193 (v60 : Int32) (v61 : Int32) (K243 : TMem → Prop) : Nat → Int32 → Int32 → TMem → Prop
  | 0, _, _, _ => False
  | n + 1, v58, v59, μ62 =>
    (v61 ≤ v58 → (K243 μ62)) ∧ (¬ v61 ≤ v58 → ((¬ (((((v59 * (25173 : Int32)) + (13849 : Int32)) - ((v59 * (25173 : Int32)) + (13849 : Int32)) / (65536 : Int32) * (65536 : Int32)) / (64 : Int32)) - ((((v59 * (25173 : Int32)) + (13849 : Int32)) - ((v59 * (25173 : Int32)) + (13849 : Int32)) / (65536 : Int32) * (65536 : Int32)) / (64 : Int32)) / (2 : Int32) * (2 : Int32)) = 0 → (wpl_X11_sow_193 v60 v61 K243 n (v58 + (1 : Int32)) (((v59 * (25173 : Int32)) + (13849 : Int32)) - ((v59 * (25173 : Int32)) + (13849 : Int32)) / (65536 : Int32) * (65536 : Int32)) μ62)) ∧ ((((((v59 * (25173 : Int32)) + (13849 : Int32)) - ((v59 * (25173 : Int32)) + (13849 : Int32)) / (65536 : Int32) * (65536 : Int32)) / (64 : Int32)) - ((((v59 * (25173 : Int32)) + (13849 : Int32)) - ((v59 * (25173 : Int32)) + (13849 : Int32)) / (65536 : Int32) * (65536 : Int32)) / (64 : Int32)) / (2 : Int32) * (2 : Int32)) = 0 → (vp_in v60 (ml 3) ∧ (vp_in v60 (ml 3) ∧ (wpl_X11_sow_193 v60 v61 K243 n (v58 + (1 : Int32)) (((v59 * (25173 : Int32)) + (13849 : Int32)) - ((v59 * (25173 : Int32)) + (13849 : Int32)) / (65536 : Int32) * (65536 : Int32)) (tms μ62 3 v60.toNatClampNeg ((μ62 3 v60.toNatClampNeg) ||| ((1 : Int32) <<< (v58 &&& 31))))))))))
def wp_X11_sow (μ : TMem) (a1 : Int32) (a2 : Int32) (a3 : Int32) (a4 : Int32) (Q : Int32 → TMem → Prop) : Prop :=
  wp_X11_isOne a1 (fun (r1 : Int32) => wp_X11_isIn a2 (0 : Int32) (65535 : Int32) (fun (r2 : Int32) => ∀ J3 : Int32 → Prop, (∀ (j4 : Int32), (wp_X11_isThrown μ r1 j4 (fun (r6 : Int32) (μ5 : TMem) => (r6 = 0 → (wp_X11_clear μ5 a1 a3 (fun (μ8 : TMem) => ∃ n8x, wpl_X11_sow_61 a1 a3 a4 (fun (u55 : Int32) (μ56 : TMem) => ∃ n56x, wpl_X11_sow_193 a1 a3 (fun (μ68 : TMem) => wp_X11_arrowsOf μ68 a1 (fun (r71 : Int32) => wp_X11_did μ68 r71 (fun (r73 : Int32) (μ72 : TMem) => Q r73 μ72))) n56x (0 : Int32) u55 μ56) n8x (0 : Int32) a2 μ8))) ∧ (¬ r6 = 0 → (Q (0 : Int32) μ5)))) → J3 j4) → ((r2 = 0 → (J3 (0 : Int32))) ∧ (¬ r2 = 0 → (wp_X11_isIn a3 (1 : Int32) (7 : Int32) (fun (r75 : Int32) => (r75 = 0 → (J3 (0 : Int32))) ∧ (¬ r75 = 0 → (wp_X11_isIn a4 (0 : Int32) (6 : Int32) (fun (r77 : Int32) => (r77 = 0 → (J3 (0 : Int32))) ∧ (¬ r77 = 0 → (J3 (1 : Int32))))))))))))
set_option maxHeartbeats 4000000 in
set_option maxRecDepth 100000 in
theorem c_X11_sow {l : Launch} {D : va_G} {ad : Nat → Nat} {cI cL : ClassId}  (μ : TMem) (sz : Nat) (a1 : Int32) (a2 : Int32) (a3 : Int32) (a4 : Int32)  {Q : Int32 → TMem → Prop} (h : wp_X11_sow μ a1 a2 a3 a4 Q) : MMi l yX11_sow (.code yX11_sow cX11_sow 9 (Option.some Jvm.ClassFile.FieldType.int)) 2 0 0 [.ref (ad 0), .int a1, .int a2, .int a3, .int a4] D ad cI cL sz μ [] Q := by
  refine M_meti (by decide +kernel) (Nat.le_of_ble_eq_true rfl) ?_
  intro p e s m below meth c Z ls hx hb hml hown ht hK hP0 hI hne hw hret hl
  have hl : lv_has ls 9 [(0, .ref (ad 0)), (1, .int a1), (2, .int a2), (3, .int a3), (4, .int a4)] := hl
  suffices hh : ∀ (H : Heap) (locs : List Loc), MW D (MR ad cI μ) [] (MA ad s.heap.size) s H locs → W p l e (RA 2 0 0) s m #[.ref (ad 0), .int a1, .int a2, .int a3, .int a4] below meth c H locs 0 0 Z (F0 m 0 ls []) from hh _ _ hw
  intro H locs hw
  change wp_X11_isOne a1 (fun (r1 : Int32) => wp_X11_isIn a2 (0 : Int32) (65535 : Int32) (fun (r2 : Int32) => ∀ J3 : Int32 → Prop, (∀ (j4 : Int32), (wp_X11_isThrown μ r1 j4 (fun (r6 : Int32) (μ5 : TMem) => (r6 = 0 → (wp_X11_clear μ5 a1 a3 (fun (μ8 : TMem) => ∃ n8x, wpl_X11_sow_61 a1 a3 a4 (fun (u55 : Int32) (μ56 : TMem) => ∃ n56x, wpl_X11_sow_193 a1 a3 (fun (μ68 : TMem) => wp_X11_arrowsOf μ68 a1 (fun (r71 : Int32) => wp_X11_did μ68 r71 (fun (r73 : Int32) (μ72 : TMem) => Q r73 μ72))) n56x (0 : Int32) u55 μ56) n8x (0 : Int32) a2 μ8))) ∧ (¬ r6 = 0 → (Q (0 : Int32) μ5)))) → J3 j4) → ((r2 = 0 → (J3 (0 : Int32))) ∧ (¬ r2 = 0 → (wp_X11_isIn a3 (1 : Int32) (7 : Int32) (fun (r75 : Int32) => (r75 = 0 → (J3 (0 : Int32))) ∧ (¬ r75 = 0 → (wp_X11_isIn a4 (0 : Int32) (6 : Int32) (fun (r77 : Int32) => (r77 = 0 → (J3 (0 : Int32))) ∧ (¬ r77 = 0 → (J3 (1 : Int32)))))))))))) at h
  refine lv_aload_n hx hb dX11_sow_0 rfl (lv_at hl 0 rfl) ?_
  refine lv_iload_n hx hb dX11_sow_1 rfl (lv_at hl 1 rfl) ?_
  refine P_calli (va_runS (own := "LeastreaderModel") (As := [.int a1]) (rest := [.ref (ad 0)]) ⟨hx, hb, hml, hown, ht⟩ (c_X11_isOne a1 h) (va_cwS 1 ht (G_S q_1342 q_1343 q_56 q_1344) rfl rfl rfl hd_91 ⟨Nat.le_of_ble_eq_true rfl, Nat.le_of_ble_eq_true rfl⟩) ⟨PM_blind, PM_pre⟩ rfl rfl hl.1 rfl (lv_room (Nat.le_of_ble_eq_true rfl)) dX11_sow_2 ⟨show 0 + 0 ≤ 0 by omega, show 0 + 0 ≤ 0 by omega⟩) (fun r1 h => ?_)
  refine lv_iload_n hx hb dX11_sow_5 rfl (lv_at hl 2 rfl) ?_
  refine lv_iconst (v := (0 : Int32)) hx hb dX11_sow_6 (by decide) ?_
  refine lv_ldc (v := (65535 : Int32)) hx hb hown (ht _ q_1392) dX11_sow_7 ?_
  refine P_calli (va_runS (own := "LeastreaderModel") (As := [.int a2, .int (0 : Int32), .int (65535 : Int32)]) (rest := [.int r1, .ref (ad 0)]) ⟨hx, hb, hml, hown, ht⟩ (c_X11_isIn a2 (0 : Int32) (65535 : Int32) h) (va_cwS 3 ht (G_S q_1345 q_1346 q_56 q_1347) rfl rfl rfl hd_78 ⟨Nat.le_of_ble_eq_true rfl, Nat.le_of_ble_eq_true rfl⟩) ⟨PM_blind, PM_pre⟩ rfl rfl hl.1 rfl (lv_room (Nat.le_of_ble_eq_true rfl)) dX11_sow_9 ⟨show 0 + 0 ≤ 0 by omega, show 0 + 0 ≤ 0 by omega⟩) (fun r2 h => ?_)
  have h := h (fun (j4 : Int32) => ∀ (H : Heap) (locs : List Loc) (ls : Array Slot), MW D (MR ad cI μ) [] (MA ad s.heap.size) s H locs → lv_has ls 9 [(0, .ref (ad 0)), (1, .int a1), (2, .int a2), (3, .int a3), (4, .int a4)] → W p l e (RA 2 0 0) s m #[.ref (ad 0), .int a1, .int a2, .int a3, .int a4] below meth c H locs 0 0 Z (F0 m 41 ls [.int j4, .int r1, .ref (ad 0)])) (fun j4 h H locs ls hw hl => by
    refine M_calli hw (MA.up hw.2.2.1.1) (va_runV (own := "LeastreaderModel") (As := [.int r1, .int j4]) (rest := []) ⟨hx, hb, hml, hown, ht⟩ (c_X11_isThrown μ H.size r1 j4 h) (cwV 2 ht (G_V q_1348 q_1350 q_26 q_56 q_1351) rfl rfl rfl ⟨rfl, hd_92⟩ ⟨Nat.le_of_ble_eq_true rfl, Nat.le_of_ble_eq_true rfl⟩) ⟨MB.blind, M_recv hK hw, MB.pre hK hI hw va_P0 ne0⟩ rfl rfl hl.1 rfl (lv_room (Nat.le_of_ble_eq_true rfl)) dX11_sow_41 ⟨show 0 + 0 ≤ 0 by omega, show 0 + 0 ≤ 0 by omega⟩) (fun r6 μ5 H locs h hw => ?_)
    refine lv_if_eq (tgt := 49) hx hb dX11_sow_44 (by decide) (fun c7 => ?_) (fun c7 => ?_)
    · have h := h.1 c7
      refine lv_aload_n hx hb dX11_sow_49 rfl (lv_at hl 0 rfl) ?_
      refine lv_iload_n hx hb dX11_sow_50 rfl (lv_at hl 1 rfl) ?_
      refine lv_iload_n hx hb dX11_sow_51 rfl (lv_at hl 3 rfl) ?_
      refine M_callv hw (MA.up hw.2.2.1.1) (va_runV (own := "LeastreaderModel") (As := [.int a1, .int a3]) (rest := []) ⟨hx, hb, hml, hown, ht⟩ (c_X11_clear μ5 H.size a1 a3 h) (cwV 2 ht (G_V q_1360 q_1362 q_28 q_56 q_1363) rfl rfl rfl ⟨rfl, hd_94⟩ ⟨Nat.le_of_ble_eq_true rfl, Nat.le_of_ble_eq_true rfl⟩) ⟨MB.blind, M_recv hK hw, MB.pre hK hI hw va_P0 ne0⟩ rfl rfl hl.1 rfl (lv_room (Nat.le_of_ble_eq_true rfl)) dX11_sow_52 ⟨show 0 + 0 ≤ 0 by omega, show 0 + 0 ≤ 0 by omega⟩) (fun μ8 H locs h hw => ?_)
      refine lv_iload_n hx hb dX11_sow_55 rfl (lv_at hl 2 rfl) ?_
      refine lv_istore (lv' := [(5, .int a2), (0, .ref (ad 0)), (1, .int a1), (2, .int a2), (3, .int a3), (4, .int a4)]) hx hb dX11_sow_56 hl (by decide) rfl (fun ls hl => ?_)
      refine lv_iconst (v := (0 : Int32)) hx hb dX11_sow_58 (by decide) ?_
      refine lv_istore (lv' := [(6, .int (0 : Int32)), (5, .int a2), (0, .ref (ad 0)), (1, .int a1), (2, .int a2), (3, .int a3), (4, .int a4)]) hx hb dX11_sow_59 hl (by decide) rfl (fun ls hl => ?_)
      obtain ⟨n54, h⟩ := h
      have L8 : ∀ (v12 : Int32) (v13 : Int32) (v14 : Int32) (K190 : Int32 → TMem → Prop), (∀ (v11 : Int32) (μ15 : TMem), ∀ (H : Heap) (locs : List Loc) (ls : Array Slot), MW D (MR ad cI μ15) [] (MA ad s.heap.size) s H locs → lv_has ls 9 [(5, .int v11), (0, .ref (ad 0)), (1, .int v12), (3, .int v13)] → K190 v11 μ15 → W p l e (RA 2 0 0) s m #[.ref (ad 0), .int a1, .int a2, .int a3, .int a4] below meth c H locs 0 0 Z (F0 m 190 ls [])) → ∀ (n : Nat), ∀ (v10 : Int32) (v11 : Int32) (μ15 : TMem), ∀ (H : Heap) (locs : List Loc) (ls : Array Slot), MW D (MR ad cI μ15) [] (MA ad s.heap.size) s H locs → lv_has ls 9 [(6, .int v10), (5, .int v11), (0, .ref (ad 0)), (1, .int v12), (3, .int v13), (4, .int v14)] → wpl_X11_sow_61 v12 v13 v14 K190 n v10 v11 μ15 → W p l e (RA 2 0 0) s m #[.ref (ad 0), .int a1, .int a2, .int a3, .int a4] below meth c H locs 0 0 Z (F0 m 61 ls []) := by
        intro v12 v13 v14 K190 hK190
        intro n
        induction n with
        | zero => intro v10 v11 μ15 H locs ls hw hl h; exact False.elim h
        | succ n ih8 =>
          intro v10 v11 μ15 H locs ls hw hl h
          change (v13 ≤ v10 → (K190 v11 μ15)) ∧ (¬ v13 ≤ v10 → (∃ n16x, wpl_X11_sow_70 v10 v12 v13 v14 (fun (u52 : Int32) (μ53 : TMem) => wpl_X11_sow_61 v12 v13 v14 K190 n (v10 + (1 : Int32)) u52 μ53) n16x (0 : Int32) v11 μ15)) at h
          refine lv_iload hx hb dX11_sow_61 (lv_at hl 0 rfl) ?_
          refine lv_iload_n hx hb dX11_sow_63 rfl (lv_at hl 4 rfl) ?_
          refine lv_icmp_ge (tgt := 190) hx hb dX11_sow_64 (by decide) (fun c16 => ?_) (fun c16 => ?_)
          · have h := h.1 c16
            exact hK190 v11 μ15 H locs ls hw (lv_sub hl [1, 2, 3, 4] rfl) h
          have h := h.2 c16
          refine lv_iconst (v := (0 : Int32)) hx hb dX11_sow_67 (by decide) ?_
          refine lv_istore (lv' := [(7, .int (0 : Int32)), (6, .int v10), (5, .int v11), (0, .ref (ad 0)), (1, .int v12), (3, .int v13), (4, .int v14)]) hx hb dX11_sow_68 hl (by decide) rfl (fun ls hl => ?_)
          obtain ⟨n51, h⟩ := h
          have L16 : ∀ (v19 : Int32) (v21 : Int32) (v22 : Int32) (v23 : Int32) (K184 : Int32 → TMem → Prop), (∀ (v20 : Int32) (μ24 : TMem), ∀ (H : Heap) (locs : List Loc) (ls : Array Slot), MW D (MR ad cI μ24) [] (MA ad s.heap.size) s H locs → lv_has ls 9 [(6, .int v19), (5, .int v20), (0, .ref (ad 0)), (1, .int v21), (3, .int v22), (4, .int v23)] → K184 v20 μ24 → W p l e (RA 2 0 0) s m #[.ref (ad 0), .int a1, .int a2, .int a3, .int a4] below meth c H locs 0 0 Z (F0 m 184 ls [])) → ∀ (n : Nat), ∀ (v18 : Int32) (v20 : Int32) (μ24 : TMem), ∀ (H : Heap) (locs : List Loc) (ls : Array Slot), MW D (MR ad cI μ24) [] (MA ad s.heap.size) s H locs → lv_has ls 9 [(7, .int v18), (6, .int v19), (5, .int v20), (0, .ref (ad 0)), (1, .int v21), (3, .int v22), (4, .int v23)] → wpl_X11_sow_70 v19 v21 v22 v23 K184 n v18 v20 μ24 → W p l e (RA 2 0 0) s m #[.ref (ad 0), .int a1, .int a2, .int a3, .int a4] below meth c H locs 0 0 Z (F0 m 70 ls []) := by
            intro v19 v21 v22 v23 K184 hK184
            intro n
            induction n with
            | zero => intro v18 v20 μ24 H locs ls hw hl h; exact False.elim h
            | succ n ih16 =>
              intro v18 v20 μ24 H locs ls hw hl h
              change ((3 : Int32) ≤ v18 → (K184 v20 μ24)) ∧ (¬ (3 : Int32) ≤ v18 → (∃ n25x, wpl_X11_sow_79 v18 v19 v21 v22 v23 (fun (u49 : Int32) (μ50 : TMem) => wpl_X11_sow_70 v19 v21 v22 v23 K184 n (v18 + (1 : Int32)) u49 μ50) n25x (0 : Int32) v20 μ24)) at h
              refine lv_iload hx hb dX11_sow_70 (lv_at hl 0 rfl) ?_
              refine lv_iconst (v := (3 : Int32)) hx hb dX11_sow_72 (by decide) ?_
              refine lv_icmp_ge (tgt := 184) hx hb dX11_sow_73 (by decide) (fun c25 => ?_) (fun c25 => ?_)
              · have h := h.1 c25
                exact hK184 v20 μ24 H locs ls hw (lv_sub hl [1, 2, 3, 4, 5, 6] rfl) h
              have h := h.2 c25
              refine lv_iconst (v := (0 : Int32)) hx hb dX11_sow_76 (by decide) ?_
              refine lv_istore (lv' := [(8, .int (0 : Int32)), (7, .int v18), (6, .int v19), (5, .int v20), (0, .ref (ad 0)), (1, .int v21), (3, .int v22), (4, .int v23)]) hx hb dX11_sow_77 hl (by decide) rfl (fun ls hl => ?_)
              obtain ⟨n48, h⟩ := h
              have L25 : ∀ (v28 : Int32) (v29 : Int32) (v31 : Int32) (v32 : Int32) (v33 : Int32) (K178 : Int32 → TMem → Prop), (∀ (v30 : Int32) (μ34 : TMem), ∀ (H : Heap) (locs : List Loc) (ls : Array Slot), MW D (MR ad cI μ34) [] (MA ad s.heap.size) s H locs → lv_has ls 9 [(7, .int v28), (6, .int v29), (5, .int v30), (0, .ref (ad 0)), (1, .int v31), (3, .int v32), (4, .int v33)] → K178 v30 μ34 → W p l e (RA 2 0 0) s m #[.ref (ad 0), .int a1, .int a2, .int a3, .int a4] below meth c H locs 0 0 Z (F0 m 178 ls [])) → ∀ (n : Nat), ∀ (v27 : Int32) (v30 : Int32) (μ34 : TMem), ∀ (H : Heap) (locs : List Loc) (ls : Array Slot), MW D (MR ad cI μ34) [] (MA ad s.heap.size) s H locs → lv_has ls 9 [(8, .int v27), (7, .int v28), (6, .int v29), (5, .int v30), (0, .ref (ad 0)), (1, .int v31), (3, .int v32), (4, .int v33)] → wpl_X11_sow_79 v28 v29 v31 v32 v33 K178 n v27 v30 μ34 → W p l e (RA 2 0 0) s m #[.ref (ad 0), .int a1, .int a2, .int a3, .int a4] below meth c H locs 0 0 Z (F0 m 79 ls []) := by
                intro v28 v29 v31 v32 v33 K178 hK178
                intro n
                induction n with
                | zero => intro v27 v30 μ34 H locs ls hw hl h; exact False.elim h
                | succ n ih25 =>
                  intro v27 v30 μ34 H locs ls hw hl h
                  change ∀ J35 : Int32 → Prop, (∀ (j36 : Int32), ((j36 ≤ v27 → (K178 v30 μ34)) ∧ (¬ j36 ≤ v27 → ((¬ v33 = 0 → (¬ (v33 + (1 : Int32)) = 0 ∧ ((¬ (((((v30 * (25173 : Int32)) + (13849 : Int32)) - ((v30 * (25173 : Int32)) + (13849 : Int32)) / (65536 : Int32) * (65536 : Int32)) / (64 : Int32)) - ((((v30 * (25173 : Int32)) + (13849 : Int32)) - ((v30 * (25173 : Int32)) + (13849 : Int32)) / (65536 : Int32) * (65536 : Int32)) / (64 : Int32)) / (v33 + (1 : Int32)) * (v33 + (1 : Int32))) = 0 → (wpl_X11_sow_79 v28 v29 v31 v32 v33 K178 n (v27 + (1 : Int32)) (((v30 * (25173 : Int32)) + (13849 : Int32)) - ((v30 * (25173 : Int32)) + (13849 : Int32)) / (65536 : Int32) * (65536 : Int32)) μ34)) ∧ ((((((v30 * (25173 : Int32)) + (13849 : Int32)) - ((v30 * (25173 : Int32)) + (13849 : Int32)) / (65536 : Int32) * (65536 : Int32)) / (64 : Int32)) - ((((v30 * (25173 : Int32)) + (13849 : Int32)) - ((v30 * (25173 : Int32)) + (13849 : Int32)) / (65536 : Int32) * (65536 : Int32)) / (64 : Int32)) / (v33 + (1 : Int32)) * (v33 + (1 : Int32))) = 0 → (wp_X11_key v31 v29 v28 (fun (r41 : Int32) => vp_in r41 (ml 4) ∧ (vp_in r41 (ml 4) ∧ (wpl_X11_sow_79 v28 v29 v31 v32 v33 K178 n (v27 + (1 : Int32)) (((v30 * (25173 : Int32)) + (13849 : Int32)) - ((v30 * (25173 : Int32)) + (13849 : Int32)) / (65536 : Int32) * (65536 : Int32)) (tms μ34 4 r41.toNatClampNeg ((μ34 4 r41.toNatClampNeg) ||| ((1 : Int32) <<< (v27 &&& 31)))))))))))) ∧ (v33 = 0 → (wp_X11_key v31 v29 v28 (fun (r44 : Int32) => ¬ v32 = 0 ∧ (vp_in r44 (ml 4) ∧ (wpl_X11_sow_79 v28 v29 v31 v32 v33 K178 n (v27 + (1 : Int32)) (((v30 * (25173 : Int32)) + (13849 : Int32)) - ((v30 * (25173 : Int32)) + (13849 : Int32)) / (65536 : Int32) * (65536 : Int32)) (tms μ34 4 r44.toNatClampNeg ((1 : Int32) <<< ((((((v30 * (25173 : Int32)) + (13849 : Int32)) - ((v30 * (25173 : Int32)) + (13849 : Int32)) / (65536 : Int32) * (65536 : Int32)) / (64 : Int32)) - ((((v30 * (25173 : Int32)) + (13849 : Int32)) - ((v30 * (25173 : Int32)) + (13849 : Int32)) / (65536 : Int32) * (65536 : Int32)) / (64 : Int32)) / v32 * v32) &&& 31))))))))))) → J35 j36) → ((¬ v33 = 0 → (J35 v32)) ∧ (v33 = 0 → (J35 (1 : Int32)))) at h
                  refine lv_iload hx hb dX11_sow_79 (lv_at hl 0 rfl) ?_
                  refine lv_iload hx hb dX11_sow_81 (lv_at hl 7 rfl) ?_
                  have h := h (fun (j36 : Int32) => ∀ (H : Heap) (locs : List Loc) (ls : Array Slot), MW D (MR ad cI μ34) [] (MA ad s.heap.size) s H locs → lv_has ls 9 [(8, .int v27), (7, .int v28), (6, .int v29), (5, .int v30), (0, .ref (ad 0)), (1, .int v31), (3, .int v32), (4, .int v33)] → W p l e (RA 2 0 0) s m #[.ref (ad 0), .int a1, .int a2, .int a3, .int a4] below meth c H locs 0 0 Z (F0 m 91 ls [.int j36, .int v27])) (fun j36 h H locs ls hw hl => by
                    refine lv_icmp_ge (tgt := 178) hx hb dX11_sow_91 (by decide) (fun c37 => ?_) (fun c37 => ?_)
                    · have h := h.1 c37
                      exact hK178 v30 μ34 H locs ls hw (lv_sub hl [1, 2, 3, 4, 5, 6, 7] rfl) h
                    have h := h.2 c37
                    refine lv_iload hx hb dX11_sow_94 (lv_at hl 3 rfl) ?_
                    refine lv_sipush (v := (25173 : Int32)) hx hb dX11_sow_96 (by decide) ?_
                    refine lv_imul hx hb dX11_sow_99 ?_
                    refine lv_sipush (v := (13849 : Int32)) hx hb dX11_sow_100 (by decide) ?_
                    refine lv_iadd hx hb dX11_sow_103 ?_
                    refine lv_ldc (v := (65536 : Int32)) hx hb hown (ht _ q_1393) dX11_sow_104 ?_
                    refine lv_irem hx hb dX11_sow_106 (by decide) ?_
                    refine lv_istore (lv' := [(5, .int (((v30 * (25173 : Int32)) + (13849 : Int32)) - ((v30 * (25173 : Int32)) + (13849 : Int32)) / (65536 : Int32) * (65536 : Int32))), (8, .int v27), (7, .int v28), (6, .int v29), (0, .ref (ad 0)), (1, .int v31), (3, .int v32), (4, .int v33)]) hx hb dX11_sow_107 hl (by decide) rfl (fun ls hl => ?_)
                    refine lv_iload hx hb dX11_sow_109 (lv_at hl 7 rfl) ?_
                    refine lv_if_ne (tgt := 139) hx hb dX11_sow_111 (by decide) (fun c38 => ?_) (fun c38 => ?_)
                    · have h := h.1 c38
                      refine lv_iload hx hb dX11_sow_139 (lv_at hl 0 rfl) ?_
                      refine lv_bipush (v := (64 : Int32)) hx hb dX11_sow_141 (by decide) ?_
                      refine lv_idiv hx hb dX11_sow_143 (by decide) ?_
                      refine lv_iload hx hb dX11_sow_144 (lv_at hl 7 rfl) ?_
                      refine lv_iconst (v := (1 : Int32)) hx hb dX11_sow_146 (by decide) ?_
                      refine lv_iadd hx hb dX11_sow_147 ?_
                      obtain ⟨z39, h⟩ := h
                      refine lv_irem hx hb dX11_sow_148 z39 ?_
                      refine lv_if_ne (tgt := 172) hx hb dX11_sow_149 (by decide) (fun c40 => ?_) (fun c40 => ?_)
                      · have h := h.1 c40
                        refine lv_iinc (v := (v27 + (1 : Int32))) (lv' := [(8, .int (v27 + (1 : Int32))), (5, .int (((v30 * (25173 : Int32)) + (13849 : Int32)) - ((v30 * (25173 : Int32)) + (13849 : Int32)) / (65536 : Int32) * (65536 : Int32))), (7, .int v28), (6, .int v29), (0, .ref (ad 0)), (1, .int v31), (3, .int v32), (4, .int v33)]) hx hb dX11_sow_172 hl (k := 1) rfl rfl (by decide) rfl (fun ls hl => ?_)
                        refine lv_goto (tgt := 79) hx hb dX11_sow_175 (by decide) ?_
                        exact ih25 (v27 + (1 : Int32)) (((v30 * (25173 : Int32)) + (13849 : Int32)) - ((v30 * (25173 : Int32)) + (13849 : Int32)) / (65536 : Int32) * (65536 : Int32)) μ34 H locs ls hw (lv_sub hl [0, 2, 3, 1, 4, 5, 6, 7] rfl) h
                      have h := h.2 c40
                      refine lv_aload_n hx hb dX11_sow_152 rfl (lv_at hl 4 rfl) ?_
                      refine m_get (i := 3) hx hb ht hown hK hw (by decide) (ht _ q_1316) rfl rfl dX11_sow_153 ?_
                      refine lv_iload_n hx hb dX11_sow_156 rfl (lv_at hl 5 rfl) ?_
                      refine lv_iload hx hb dX11_sow_157 (lv_at hl 3 rfl) ?_
                      refine lv_iload hx hb dX11_sow_159 (lv_at hl 2 rfl) ?_
                      refine P_calli (va_runS (own := "LeastreaderModel") (As := [.int v31, .int v29, .int v28]) (rest := [.ref (ad 4)]) ⟨hx, hb, hml, hown, ht⟩ (c_X11_key v31 v29 v28 h) (va_cwS 3 ht (G_S q_1356 q_1357 q_56 q_1358) rfl rfl rfl hd_79 ⟨Nat.le_of_ble_eq_true rfl, Nat.le_of_ble_eq_true rfl⟩) ⟨PM_blind, PM_pre⟩ rfl rfl hl.1 rfl (lv_room (Nat.le_of_ble_eq_true rfl)) dX11_sow_161 ⟨show 0 + 0 ≤ 0 by omega, show 0 + 0 ≤ 0 by omega⟩) (fun r41 h => ?_)
                      refine lv_dup2_11 hx hb dX11_sow_164 rfl rfl ?_
                      obtain ⟨z42, h⟩ := h
                      refine m_iald hx hb hK hw (by decide) z42 dX11_sow_165 ?_
                      refine lv_iconst (v := (1 : Int32)) hx hb dX11_sow_166 (by decide) ?_
                      refine lv_iload hx hb dX11_sow_167 (lv_at hl 1 rfl) ?_
                      refine lv_ishl hx hb dX11_sow_169 ?_
                      refine lv_ior hx hb dX11_sow_170 ?_
                      obtain ⟨z43, h⟩ := h
                      refine m_iast hx hb hK hw (by decide) z43 dX11_sow_171 (fun H locs hw => ?_)
                      refine lv_iinc (v := (v27 + (1 : Int32))) (lv' := [(8, .int (v27 + (1 : Int32))), (5, .int (((v30 * (25173 : Int32)) + (13849 : Int32)) - ((v30 * (25173 : Int32)) + (13849 : Int32)) / (65536 : Int32) * (65536 : Int32))), (7, .int v28), (6, .int v29), (0, .ref (ad 0)), (1, .int v31), (3, .int v32), (4, .int v33)]) hx hb dX11_sow_172 hl (k := 1) rfl rfl (by decide) rfl (fun ls hl => ?_)
                      refine lv_goto (tgt := 79) hx hb dX11_sow_175 (by decide) ?_
                      exact ih25 (v27 + (1 : Int32)) (((v30 * (25173 : Int32)) + (13849 : Int32)) - ((v30 * (25173 : Int32)) + (13849 : Int32)) / (65536 : Int32) * (65536 : Int32)) (tms μ34 4 r41.toNatClampNeg ((μ34 4 r41.toNatClampNeg) ||| ((1 : Int32) <<< (v27 &&& 31)))) H locs ls hw (lv_sub hl [0, 2, 3, 1, 4, 5, 6, 7] rfl) h
                    have h := h.2 c38
                    refine lv_aload_n hx hb dX11_sow_114 rfl (lv_at hl 4 rfl) ?_
                    refine m_get (i := 3) hx hb ht hown hK hw (by decide) (ht _ q_1316) rfl rfl dX11_sow_115 ?_
                    refine lv_iload_n hx hb dX11_sow_118 rfl (lv_at hl 5 rfl) ?_
                    refine lv_iload hx hb dX11_sow_119 (lv_at hl 3 rfl) ?_
                    refine lv_iload hx hb dX11_sow_121 (lv_at hl 2 rfl) ?_
                    refine P_calli (va_runS (own := "LeastreaderModel") (As := [.int v31, .int v29, .int v28]) (rest := [.ref (ad 4)]) ⟨hx, hb, hml, hown, ht⟩ (c_X11_key v31 v29 v28 h) (va_cwS 3 ht (G_S q_1356 q_1357 q_56 q_1358) rfl rfl rfl hd_79 ⟨Nat.le_of_ble_eq_true rfl, Nat.le_of_ble_eq_true rfl⟩) ⟨PM_blind, PM_pre⟩ rfl rfl hl.1 rfl (lv_room (Nat.le_of_ble_eq_true rfl)) dX11_sow_123 ⟨show 0 + 0 ≤ 0 by omega, show 0 + 0 ≤ 0 by omega⟩) (fun r44 h => ?_)
                    refine lv_iconst (v := (1 : Int32)) hx hb dX11_sow_126 (by decide) ?_
                    refine lv_iload hx hb dX11_sow_127 (lv_at hl 0 rfl) ?_
                    refine lv_bipush (v := (64 : Int32)) hx hb dX11_sow_129 (by decide) ?_
                    refine lv_idiv hx hb dX11_sow_131 (by decide) ?_
                    refine lv_iload_n hx hb dX11_sow_132 rfl (lv_at hl 6 rfl) ?_
                    obtain ⟨z45, h⟩ := h
                    refine lv_irem hx hb dX11_sow_133 z45 ?_
                    refine lv_ishl hx hb dX11_sow_134 ?_
                    obtain ⟨z46, h⟩ := h
                    refine m_iast hx hb hK hw (by decide) z46 dX11_sow_135 (fun H locs hw => ?_)
                    refine lv_goto (tgt := 172) hx hb dX11_sow_136 (by decide) ?_
                    refine lv_iinc (v := (v27 + (1 : Int32))) (lv' := [(8, .int (v27 + (1 : Int32))), (5, .int (((v30 * (25173 : Int32)) + (13849 : Int32)) - ((v30 * (25173 : Int32)) + (13849 : Int32)) / (65536 : Int32) * (65536 : Int32))), (7, .int v28), (6, .int v29), (0, .ref (ad 0)), (1, .int v31), (3, .int v32), (4, .int v33)]) hx hb dX11_sow_172 hl (k := 1) rfl rfl (by decide) rfl (fun ls hl => ?_)
                    refine lv_goto (tgt := 79) hx hb dX11_sow_175 (by decide) ?_
                    exact ih25 (v27 + (1 : Int32)) (((v30 * (25173 : Int32)) + (13849 : Int32)) - ((v30 * (25173 : Int32)) + (13849 : Int32)) / (65536 : Int32) * (65536 : Int32)) (tms μ34 4 r44.toNatClampNeg ((1 : Int32) <<< ((((((v30 * (25173 : Int32)) + (13849 : Int32)) - ((v30 * (25173 : Int32)) + (13849 : Int32)) / (65536 : Int32) * (65536 : Int32)) / (64 : Int32)) - ((((v30 * (25173 : Int32)) + (13849 : Int32)) - ((v30 * (25173 : Int32)) + (13849 : Int32)) / (65536 : Int32) * (65536 : Int32)) / (64 : Int32)) / v32 * v32) &&& 31))) H locs ls hw (lv_sub hl [0, 2, 3, 1, 4, 5, 6, 7] rfl) h)
                  refine lv_if_ne (tgt := 90) hx hb dX11_sow_83 (by decide) (fun c47 => ?_) (fun c47 => ?_)
                  · have h := h.1 c47
                    refine lv_iload_n hx hb dX11_sow_90 rfl (lv_at hl 6 rfl) ?_
                    exact h H locs ls hw (lv_sub hl [0, 1, 2, 3, 4, 5, 6, 7] rfl)
                  have h := h.2 c47
                  refine lv_iconst (v := (1 : Int32)) hx hb dX11_sow_86 (by decide) ?_
                  refine lv_goto (tgt := 91) hx hb dX11_sow_87 (by decide) ?_
                  exact h H locs ls hw (lv_sub hl [0, 1, 2, 3, 4, 5, 6, 7] rfl)
              refine L25 v18 v19 v21 v22 v23 _ ?_ n48 (0 : Int32) v20 μ24 H locs ls hw (lv_sub hl [0, 1, 2, 3, 4, 5, 6, 7] rfl) h
              intro u49 μ50 H locs ls hw hl h
              refine lv_iinc (v := (v18 + (1 : Int32))) (lv' := [(7, .int (v18 + (1 : Int32))), (6, .int v19), (5, .int u49), (0, .ref (ad 0)), (1, .int v21), (3, .int v22), (4, .int v23)]) hx hb dX11_sow_178 hl (k := 0) rfl rfl (by decide) rfl (fun ls hl => ?_)
              refine lv_goto (tgt := 70) hx hb dX11_sow_181 (by decide) ?_
              exact ih16 (v18 + (1 : Int32)) u49 μ50 H locs ls hw (lv_sub hl [0, 1, 2, 3, 4, 5, 6] rfl) h
          refine L16 v10 v12 v13 v14 _ ?_ n51 (0 : Int32) v11 μ15 H locs ls hw (lv_sub hl [0, 1, 2, 3, 4, 5, 6] rfl) h
          intro u52 μ53 H locs ls hw hl h
          refine lv_iinc (v := (v10 + (1 : Int32))) (lv' := [(6, .int (v10 + (1 : Int32))), (5, .int u52), (0, .ref (ad 0)), (1, .int v12), (3, .int v13), (4, .int v14)]) hx hb dX11_sow_184 hl (k := 0) rfl rfl (by decide) rfl (fun ls hl => ?_)
          refine lv_goto (tgt := 61) hx hb dX11_sow_187 (by decide) ?_
          exact ih8 (v10 + (1 : Int32)) u52 μ53 H locs ls hw (lv_sub hl [0, 1, 2, 3, 4, 5] rfl) h
      refine L8 a1 a3 a4 _ ?_ n54 (0 : Int32) a2 μ8 H locs ls hw (lv_sub hl [0, 1, 2, 3, 5, 6] rfl) h
      intro u55 μ56 H locs ls hw hl h
      refine lv_iconst (v := (0 : Int32)) hx hb dX11_sow_190 (by decide) ?_
      refine lv_istore (lv' := [(6, .int (0 : Int32)), (5, .int u55), (0, .ref (ad 0)), (1, .int a1), (3, .int a3)]) hx hb dX11_sow_191 hl (by decide) rfl (fun ls hl => ?_)
      obtain ⟨n67, h⟩ := h
      have L56 : ∀ (v60 : Int32) (v61 : Int32) (K243 : TMem → Prop), (∀ (μ62 : TMem), ∀ (H : Heap) (locs : List Loc) (ls : Array Slot), MW D (MR ad cI μ62) [] (MA ad s.heap.size) s H locs → lv_has ls 9 [(0, .ref (ad 0)), (1, .int v60)] → K243 μ62 → W p l e (RA 2 0 0) s m #[.ref (ad 0), .int a1, .int a2, .int a3, .int a4] below meth c H locs 0 0 Z (F0 m 243 ls [])) → ∀ (n : Nat), ∀ (v58 : Int32) (v59 : Int32) (μ62 : TMem), ∀ (H : Heap) (locs : List Loc) (ls : Array Slot), MW D (MR ad cI μ62) [] (MA ad s.heap.size) s H locs → lv_has ls 9 [(6, .int v58), (5, .int v59), (0, .ref (ad 0)), (1, .int v60), (3, .int v61)] → wpl_X11_sow_193 v60 v61 K243 n v58 v59 μ62 → W p l e (RA 2 0 0) s m #[.ref (ad 0), .int a1, .int a2, .int a3, .int a4] below meth c H locs 0 0 Z (F0 m 193 ls []) := by
        intro v60 v61 K243 hK243
        intro n
        induction n with
        | zero => intro v58 v59 μ62 H locs ls hw hl h; exact False.elim h
        | succ n ih56 =>
          intro v58 v59 μ62 H locs ls hw hl h
          change (v61 ≤ v58 → (K243 μ62)) ∧ (¬ v61 ≤ v58 → ((¬ (((((v59 * (25173 : Int32)) + (13849 : Int32)) - ((v59 * (25173 : Int32)) + (13849 : Int32)) / (65536 : Int32) * (65536 : Int32)) / (64 : Int32)) - ((((v59 * (25173 : Int32)) + (13849 : Int32)) - ((v59 * (25173 : Int32)) + (13849 : Int32)) / (65536 : Int32) * (65536 : Int32)) / (64 : Int32)) / (2 : Int32) * (2 : Int32)) = 0 → (wpl_X11_sow_193 v60 v61 K243 n (v58 + (1 : Int32)) (((v59 * (25173 : Int32)) + (13849 : Int32)) - ((v59 * (25173 : Int32)) + (13849 : Int32)) / (65536 : Int32) * (65536 : Int32)) μ62)) ∧ ((((((v59 * (25173 : Int32)) + (13849 : Int32)) - ((v59 * (25173 : Int32)) + (13849 : Int32)) / (65536 : Int32) * (65536 : Int32)) / (64 : Int32)) - ((((v59 * (25173 : Int32)) + (13849 : Int32)) - ((v59 * (25173 : Int32)) + (13849 : Int32)) / (65536 : Int32) * (65536 : Int32)) / (64 : Int32)) / (2 : Int32) * (2 : Int32)) = 0 → (vp_in v60 (ml 3) ∧ (vp_in v60 (ml 3) ∧ (wpl_X11_sow_193 v60 v61 K243 n (v58 + (1 : Int32)) (((v59 * (25173 : Int32)) + (13849 : Int32)) - ((v59 * (25173 : Int32)) + (13849 : Int32)) / (65536 : Int32) * (65536 : Int32)) (tms μ62 3 v60.toNatClampNeg ((μ62 3 v60.toNatClampNeg) ||| ((1 : Int32) <<< (v58 &&& 31)))))))))) at h
          refine lv_iload hx hb dX11_sow_193 (lv_at hl 0 rfl) ?_
          refine lv_iload_n hx hb dX11_sow_195 rfl (lv_at hl 4 rfl) ?_
          refine lv_icmp_ge (tgt := 243) hx hb dX11_sow_196 (by decide) (fun c63 => ?_) (fun c63 => ?_)
          · have h := h.1 c63
            exact hK243 μ62 H locs ls hw (lv_sub hl [2, 3] rfl) h
          have h := h.2 c63
          refine lv_iload hx hb dX11_sow_199 (lv_at hl 1 rfl) ?_
          refine lv_sipush (v := (25173 : Int32)) hx hb dX11_sow_201 (by decide) ?_
          refine lv_imul hx hb dX11_sow_204 ?_
          refine lv_sipush (v := (13849 : Int32)) hx hb dX11_sow_205 (by decide) ?_
          refine lv_iadd hx hb dX11_sow_208 ?_
          refine lv_ldc (v := (65536 : Int32)) hx hb hown (ht _ q_1393) dX11_sow_209 ?_
          refine lv_irem hx hb dX11_sow_211 (by decide) ?_
          refine lv_istore (lv' := [(5, .int (((v59 * (25173 : Int32)) + (13849 : Int32)) - ((v59 * (25173 : Int32)) + (13849 : Int32)) / (65536 : Int32) * (65536 : Int32))), (6, .int v58), (0, .ref (ad 0)), (1, .int v60), (3, .int v61)]) hx hb dX11_sow_212 hl (by decide) rfl (fun ls hl => ?_)
          refine lv_iload hx hb dX11_sow_214 (lv_at hl 0 rfl) ?_
          refine lv_bipush (v := (64 : Int32)) hx hb dX11_sow_216 (by decide) ?_
          refine lv_idiv hx hb dX11_sow_218 (by decide) ?_
          refine lv_iconst (v := (2 : Int32)) hx hb dX11_sow_219 (by decide) ?_
          refine lv_irem hx hb dX11_sow_220 (by decide) ?_
          refine lv_if_ne (tgt := 237) hx hb dX11_sow_221 (by decide) (fun c64 => ?_) (fun c64 => ?_)
          · have h := h.1 c64
            refine lv_iinc (v := (v58 + (1 : Int32))) (lv' := [(6, .int (v58 + (1 : Int32))), (5, .int (((v59 * (25173 : Int32)) + (13849 : Int32)) - ((v59 * (25173 : Int32)) + (13849 : Int32)) / (65536 : Int32) * (65536 : Int32))), (0, .ref (ad 0)), (1, .int v60), (3, .int v61)]) hx hb dX11_sow_237 hl (k := 1) rfl rfl (by decide) rfl (fun ls hl => ?_)
            refine lv_goto (tgt := 193) hx hb dX11_sow_240 (by decide) ?_
            exact ih56 (v58 + (1 : Int32)) (((v59 * (25173 : Int32)) + (13849 : Int32)) - ((v59 * (25173 : Int32)) + (13849 : Int32)) / (65536 : Int32) * (65536 : Int32)) μ62 H locs ls hw (lv_sub hl [0, 1, 2, 3, 4] rfl) h
          have h := h.2 c64
          refine lv_aload_n hx hb dX11_sow_224 rfl (lv_at hl 2 rfl) ?_
          refine m_get (i := 2) hx hb ht hown hK hw (by decide) (ht _ q_1315) rfl rfl dX11_sow_225 ?_
          refine lv_iload_n hx hb dX11_sow_228 rfl (lv_at hl 3 rfl) ?_
          refine lv_dup2_11 hx hb dX11_sow_229 rfl rfl ?_
          obtain ⟨z65, h⟩ := h
          refine m_iald hx hb hK hw (by decide) z65 dX11_sow_230 ?_
          refine lv_iconst (v := (1 : Int32)) hx hb dX11_sow_231 (by decide) ?_
          refine lv_iload hx hb dX11_sow_232 (lv_at hl 1 rfl) ?_
          refine lv_ishl hx hb dX11_sow_234 ?_
          refine lv_ior hx hb dX11_sow_235 ?_
          obtain ⟨z66, h⟩ := h
          refine m_iast hx hb hK hw (by decide) z66 dX11_sow_236 (fun H locs hw => ?_)
          refine lv_iinc (v := (v58 + (1 : Int32))) (lv' := [(6, .int (v58 + (1 : Int32))), (5, .int (((v59 * (25173 : Int32)) + (13849 : Int32)) - ((v59 * (25173 : Int32)) + (13849 : Int32)) / (65536 : Int32) * (65536 : Int32))), (0, .ref (ad 0)), (1, .int v60), (3, .int v61)]) hx hb dX11_sow_237 hl (k := 1) rfl rfl (by decide) rfl (fun ls hl => ?_)
          refine lv_goto (tgt := 193) hx hb dX11_sow_240 (by decide) ?_
          exact ih56 (v58 + (1 : Int32)) (((v59 * (25173 : Int32)) + (13849 : Int32)) - ((v59 * (25173 : Int32)) + (13849 : Int32)) / (65536 : Int32) * (65536 : Int32)) (tms μ62 3 v60.toNatClampNeg ((μ62 3 v60.toNatClampNeg) ||| ((1 : Int32) <<< (v58 &&& 31)))) H locs ls hw (lv_sub hl [0, 1, 2, 3, 4] rfl) h
      refine L56 a1 a3 _ ?_ n67 (0 : Int32) u55 μ56 H locs ls hw (lv_sub hl [0, 1, 2, 3, 4] rfl) h
      intro μ68 H locs ls hw hl h
      refine lv_aload_n hx hb dX11_sow_243 rfl (lv_at hl 0 rfl) ?_
      refine lv_aload_n hx hb dX11_sow_244 rfl (lv_at hl 0 rfl) ?_
      refine lv_iload_n hx hb dX11_sow_245 rfl (lv_at hl 1 rfl) ?_
      refine M_calli hw (MA.up hw.2.2.1.1) (va_runV (own := "LeastreaderModel") (As := [.int a1]) (rest := [.ref (ad 0)]) ⟨hx, hb, hml, hown, ht⟩ (c_X11_arrowsOf μ68 H.size a1 h) (cwV 1 ht (G_V q_1352 q_1354 q_27 q_56 q_1355) rfl rfl rfl ⟨rfl, hd_93⟩ ⟨Nat.le_of_ble_eq_true rfl, Nat.le_of_ble_eq_true rfl⟩) ⟨MB.blind, M_recv hK hw, MB.pre hK hI hw va_P0 ne0⟩ rfl rfl hl.1 rfl (lv_room (Nat.le_of_ble_eq_true rfl)) dX11_sow_246 ⟨show 0 + 0 ≤ 0 by omega, show 0 + 0 ≤ 0 by omega⟩) (fun r71 μ69 H locs h hw => ?_)
      obtain ⟨e70, h⟩ := h
      rw [e70] at hw
      refine M_calli hw (MA.up hw.2.2.1.1) (va_runV (own := "LeastreaderModel") (As := [.int r71]) (rest := []) ⟨hx, hb, hml, hown, ht⟩ (c_X11_did μ68 H.size r71 h) (cwV 1 ht (G_V q_1364 q_1366 q_29 q_56 q_1367) rfl rfl rfl ⟨rfl, hd_95⟩ ⟨Nat.le_of_ble_eq_true rfl, Nat.le_of_ble_eq_true rfl⟩) ⟨MB.blind, M_recv hK hw, MB.pre hK hI hw va_P0 ne0⟩ rfl rfl hl.1 rfl (lv_room (Nat.le_of_ble_eq_true rfl)) dX11_sow_249 ⟨show 0 + 0 ≤ 0 by omega, show 0 + 0 ≤ 0 by omega⟩) (fun r73 μ72 H locs h hw => ?_)
      exact hret H locs ls 252 _ _ _ _ _ hw h rfl (show 0 ≤ 0 by omega) (show 0 ≤ 0 by omega) dX11_sow_252
    have h := h.2 c7
    refine lv_iconst (v := (0 : Int32)) hx hb dX11_sow_47 (by decide) ?_
    exact hret H locs ls 48 _ _ _ _ _ hw h rfl (show 0 ≤ 0 by omega) (show 0 ≤ 0 by omega) dX11_sow_48)
  refine lv_if_eq (tgt := 40) hx hb dX11_sow_12 (by decide) (fun c74 => ?_) (fun c74 => ?_)
  · have h := h.1 c74
    refine lv_iconst (v := (0 : Int32)) hx hb dX11_sow_40 (by decide) ?_
    exact h H locs ls hw (lv_sub hl [0, 1, 2, 3, 4] rfl)
  have h := h.2 c74
  refine lv_iload_n hx hb dX11_sow_15 rfl (lv_at hl 3 rfl) ?_
  refine lv_iconst (v := (1 : Int32)) hx hb dX11_sow_16 (by decide) ?_
  refine lv_bipush (v := (7 : Int32)) hx hb dX11_sow_17 (by decide) ?_
  refine P_calli (va_runS (own := "LeastreaderModel") (As := [.int a3, .int (1 : Int32), .int (7 : Int32)]) (rest := [.int r1, .ref (ad 0)]) ⟨hx, hb, hml, hown, ht⟩ (c_X11_isIn a3 (1 : Int32) (7 : Int32) h) (va_cwS 3 ht (G_S q_1345 q_1346 q_56 q_1347) rfl rfl rfl hd_78 ⟨Nat.le_of_ble_eq_true rfl, Nat.le_of_ble_eq_true rfl⟩) ⟨PM_blind, PM_pre⟩ rfl rfl hl.1 rfl (lv_room (Nat.le_of_ble_eq_true rfl)) dX11_sow_19 ⟨show 0 + 0 ≤ 0 by omega, show 0 + 0 ≤ 0 by omega⟩) (fun r75 h => ?_)
  refine lv_if_eq (tgt := 40) hx hb dX11_sow_22 (by decide) (fun c76 => ?_) (fun c76 => ?_)
  · have h := h.1 c76
    refine lv_iconst (v := (0 : Int32)) hx hb dX11_sow_40 (by decide) ?_
    exact h H locs ls hw (lv_sub hl [0, 1, 2, 3, 4] rfl)
  have h := h.2 c76
  refine lv_iload hx hb dX11_sow_25 (lv_at hl 4 rfl) ?_
  refine lv_iconst (v := (0 : Int32)) hx hb dX11_sow_27 (by decide) ?_
  refine lv_bipush (v := (6 : Int32)) hx hb dX11_sow_28 (by decide) ?_
  refine P_calli (va_runS (own := "LeastreaderModel") (As := [.int a4, .int (0 : Int32), .int (6 : Int32)]) (rest := [.int r1, .ref (ad 0)]) ⟨hx, hb, hml, hown, ht⟩ (c_X11_isIn a4 (0 : Int32) (6 : Int32) h) (va_cwS 3 ht (G_S q_1345 q_1346 q_56 q_1347) rfl rfl rfl hd_78 ⟨Nat.le_of_ble_eq_true rfl, Nat.le_of_ble_eq_true rfl⟩) ⟨PM_blind, PM_pre⟩ rfl rfl hl.1 rfl (lv_room (Nat.le_of_ble_eq_true rfl)) dX11_sow_30 ⟨show 0 + 0 ≤ 0 by omega, show 0 + 0 ≤ 0 by omega⟩) (fun r77 h => ?_)
  refine lv_if_eq (tgt := 40) hx hb dX11_sow_33 (by decide) (fun c78 => ?_) (fun c78 => ?_)
  · have h := h.1 c78
    refine lv_iconst (v := (0 : Int32)) hx hb dX11_sow_40 (by decide) ?_
    exact h H locs ls hw (lv_sub hl [0, 1, 2, 3, 4] rfl)
  have h := h.2 c78
  refine lv_iconst (v := (1 : Int32)) hx hb dX11_sow_36 (by decide) ?_
  refine lv_goto (tgt := 41) hx hb dX11_sow_37 (by decide) ?_
  exact h H locs ls hw (lv_sub hl [0, 1, 2, 3, 4] rfl)
def wpl_X11_isSame_54 (μ : TMem) (v8 : Int32) (v9 : Int32) (Q : Int32 → Prop) : Nat → Int32 → Int32 → Prop
  | 0, _, _ => False
  | n + 1, v6, v7 =>
    ((21 : Int32) ≤ v6 → (isB v7 ∧ (Q v7))) ∧ (¬ (21 : Int32) ≤ v6 → (wp_X11_key v8 (0 : Int32) (0 : Int32) (fun (r12 : Int32) => vp_in (r12 + v6) (ml 4) ∧ (wp_X11_key v9 (0 : Int32) (0 : Int32) (fun (r14 : Int32) => vp_in (r14 + v6) (ml 4) ∧ ((¬ (μ 4 (r12 + v6).toNatClampNeg) = (μ 4 (r14 + v6).toNatClampNeg) → (wpl_X11_isSame_54 μ v8 v9 Q n (v6 + (1 : Int32)) (v7 &&& (0 : Int32)))) ∧ ((μ 4 (r12 + v6).toNatClampNeg) = (μ 4 (r14 + v6).toNatClampNeg) → (wpl_X11_isSame_54 μ v8 v9 Q n (v6 + (1 : Int32)) (v7 &&& (1 : Int32))))))))))
def wp_X11_isSame (μ : TMem) (a1 : Int32) (a2 : Int32) (Q : Int32 → Prop) : Prop :=
  vp_in a1 (ml 1) ∧ (vp_in a2 (ml 1) ∧ (∀ J3 : Int32 → Prop, (∀ (j4 : Int32), (∃ n4x, wpl_X11_isSame_54 μ a1 a2 Q n4x (0 : Int32) j4) → J3 j4) → ((¬ (μ 1 a1.toNatClampNeg) = (μ 1 a2.toNatClampNeg) → (J3 (0 : Int32))) ∧ ((μ 1 a1.toNatClampNeg) = (μ 1 a2.toNatClampNeg) → (vp_in a1 (ml 2) ∧ (vp_in a2 (ml 2) ∧ ((¬ (μ 2 a1.toNatClampNeg) = (μ 2 a2.toNatClampNeg) → (J3 (0 : Int32))) ∧ ((μ 2 a1.toNatClampNeg) = (μ 2 a2.toNatClampNeg) → (vp_in a1 (ml 3) ∧ (vp_in a2 (ml 3) ∧ ((¬ (μ 3 a1.toNatClampNeg) = (μ 3 a2.toNatClampNeg) → (J3 (0 : Int32))) ∧ ((μ 3 a1.toNatClampNeg) = (μ 3 a2.toNatClampNeg) → (J3 (1 : Int32))))))))))))))
set_option maxHeartbeats 4000000 in
set_option maxRecDepth 100000 in
theorem c_X11_isSame {l : Launch} {D : va_G} {ad : Nat → Nat} {cI cL : ClassId}  (μ : TMem) (sz : Nat) (a1 : Int32) (a2 : Int32)  {Q : Int32 → Prop} (h : wp_X11_isSame μ a1 a2 Q) : MMi l yX11_isSame (.code yX11_isSame cX11_isSame 5 (Option.some Jvm.ClassFile.FieldType.boolean)) 1 0 0 [.ref (ad 0), .int a1, .int a2] D ad cI cL sz μ [] (fun r μ1 => μ1 = μ ∧ Q r) := by
  refine M_meti (by decide +kernel) (Nat.le_of_ble_eq_true rfl) ?_
  intro p e s m below meth c Z ls hx hb hml hown ht hK hP0 hI hne hw hret hl
  have hl : lv_has ls 5 [(0, .ref (ad 0)), (1, .int a1), (2, .int a2)] := hl
  suffices hh : ∀ (H : Heap) (locs : List Loc), MW D (MR ad cI μ) [] (MA ad s.heap.size) s H locs → W p l e (RA 1 0 0) s m #[.ref (ad 0), .int a1, .int a2] below meth c H locs 0 0 Z (F0 m 0 ls []) from hh _ _ hw
  intro H locs hw
  change vp_in a1 (ml 1) ∧ (vp_in a2 (ml 1) ∧ (∀ J3 : Int32 → Prop, (∀ (j4 : Int32), (∃ n4x, wpl_X11_isSame_54 μ a1 a2 Q n4x (0 : Int32) j4) → J3 j4) → ((¬ (μ 1 a1.toNatClampNeg) = (μ 1 a2.toNatClampNeg) → (J3 (0 : Int32))) ∧ ((μ 1 a1.toNatClampNeg) = (μ 1 a2.toNatClampNeg) → (vp_in a1 (ml 2) ∧ (vp_in a2 (ml 2) ∧ ((¬ (μ 2 a1.toNatClampNeg) = (μ 2 a2.toNatClampNeg) → (J3 (0 : Int32))) ∧ ((μ 2 a1.toNatClampNeg) = (μ 2 a2.toNatClampNeg) → (vp_in a1 (ml 3) ∧ (vp_in a2 (ml 3) ∧ ((¬ (μ 3 a1.toNatClampNeg) = (μ 3 a2.toNatClampNeg) → (J3 (0 : Int32))) ∧ ((μ 3 a1.toNatClampNeg) = (μ 3 a2.toNatClampNeg) → (J3 (1 : Int32)))))))))))))) at h
  refine lv_aload_n hx hb dX11_isSame_0 rfl (lv_at hl 0 rfl) ?_
  refine m_get (i := 0) hx hb ht hown hK hw (by decide) (ht _ q_1313) rfl rfl dX11_isSame_1 ?_
  refine lv_iload_n hx hb dX11_isSame_4 rfl (lv_at hl 1 rfl) ?_
  obtain ⟨z1, h⟩ := h
  refine m_iald hx hb hK hw (by decide) z1 dX11_isSame_5 ?_
  refine lv_aload_n hx hb dX11_isSame_6 rfl (lv_at hl 0 rfl) ?_
  refine m_get (i := 0) hx hb ht hown hK hw (by decide) (ht _ q_1313) rfl rfl dX11_isSame_7 ?_
  refine lv_iload_n hx hb dX11_isSame_10 rfl (lv_at hl 2 rfl) ?_
  obtain ⟨z2, h⟩ := h
  refine m_iald hx hb hK hw (by decide) z2 dX11_isSame_11 ?_
  have h := h (fun (j4 : Int32) => ∀ (H : Heap) (locs : List Loc) (ls : Array Slot), MW D (MR ad cI μ) [] (MA ad s.heap.size) s H locs → lv_has ls 5 [(0, .ref (ad 0)), (1, .int a1), (2, .int a2)] → W p l e (RA 1 0 0) s m #[.ref (ad 0), .int a1, .int a2] below meth c H locs 0 0 Z (F0 m 50 ls [.int j4])) (fun j4 h H locs ls hw hl => by
    refine lv_istore_n (lv' := [(3, .int j4), (0, .ref (ad 0)), (1, .int a1), (2, .int a2)]) hx hb dX11_isSame_50 rfl hl (by decide) rfl (fun ls hl => ?_)
    refine lv_iconst (v := (0 : Int32)) hx hb dX11_isSame_51 (by decide) ?_
    refine lv_istore (lv' := [(4, .int (0 : Int32)), (3, .int j4), (0, .ref (ad 0)), (1, .int a1), (2, .int a2)]) hx hb dX11_isSame_52 hl (by decide) rfl (fun ls hl => ?_)
    obtain ⟨n17, h⟩ := h
    have L4 : ∀ (v8 : Int32) (v9 : Int32), ∀ (n : Nat), ∀ (v6 : Int32) (v7 : Int32), ∀ (H : Heap) (locs : List Loc) (ls : Array Slot), MW D (MR ad cI μ) [] (MA ad s.heap.size) s H locs → lv_has ls 5 [(4, .int v6), (3, .int v7), (0, .ref (ad 0)), (1, .int v8), (2, .int v9)] → wpl_X11_isSame_54 μ v8 v9 Q n v6 v7 → W p l e (RA 1 0 0) s m #[.ref (ad 0), .int a1, .int a2] below meth c H locs 0 0 Z (F0 m 54 ls []) := by
      intro v8 v9
      intro n
      induction n with
      | zero => intro v6 v7 H locs ls hw hl h; exact False.elim h
      | succ n ih4 =>
        intro v6 v7 H locs ls hw hl h
        change ((21 : Int32) ≤ v6 → (isB v7 ∧ (Q v7))) ∧ (¬ (21 : Int32) ≤ v6 → (wp_X11_key v8 (0 : Int32) (0 : Int32) (fun (r12 : Int32) => vp_in (r12 + v6) (ml 4) ∧ (wp_X11_key v9 (0 : Int32) (0 : Int32) (fun (r14 : Int32) => vp_in (r14 + v6) (ml 4) ∧ ((¬ (μ 4 (r12 + v6).toNatClampNeg) = (μ 4 (r14 + v6).toNatClampNeg) → (wpl_X11_isSame_54 μ v8 v9 Q n (v6 + (1 : Int32)) (v7 &&& (0 : Int32)))) ∧ ((μ 4 (r12 + v6).toNatClampNeg) = (μ 4 (r14 + v6).toNatClampNeg) → (wpl_X11_isSame_54 μ v8 v9 Q n (v6 + (1 : Int32)) (v7 &&& (1 : Int32)))))))))) at h
        refine lv_iload hx hb dX11_isSame_54 (lv_at hl 0 rfl) ?_
        refine lv_bipush (v := (21 : Int32)) hx hb dX11_isSame_56 (by decide) ?_
        refine lv_icmp_ge (tgt := 106) hx hb dX11_isSame_58 (by decide) (fun c10 => ?_) (fun c10 => ?_)
        · have h := h.1 c10
          refine lv_iload_n hx hb dX11_isSame_106 rfl (lv_at hl 1 rfl) ?_
          obtain ⟨z11, h⟩ := h
          exact hret H locs ls 107 _ _ _ _ _ hw ⟨rfl, h⟩ (isB_n z11) (show 0 ≤ 0 by omega) (show 0 ≤ 0 by omega) dX11_isSame_107
        have h := h.2 c10
        refine lv_iload_n hx hb dX11_isSame_61 rfl (lv_at hl 1 rfl) ?_
        refine lv_aload_n hx hb dX11_isSame_62 rfl (lv_at hl 2 rfl) ?_
        refine m_get (i := 3) hx hb ht hown hK hw (by decide) (ht _ q_1316) rfl rfl dX11_isSame_63 ?_
        refine lv_iload_n hx hb dX11_isSame_66 rfl (lv_at hl 3 rfl) ?_
        refine lv_iconst (v := (0 : Int32)) hx hb dX11_isSame_67 (by decide) ?_
        refine lv_iconst (v := (0 : Int32)) hx hb dX11_isSame_68 (by decide) ?_
        refine P_calli (va_runS (own := "LeastreaderModel") (As := [.int v8, .int (0 : Int32), .int (0 : Int32)]) (rest := [.ref (ad 4), .int v7]) ⟨hx, hb, hml, hown, ht⟩ (c_X11_key v8 (0 : Int32) (0 : Int32) h) (va_cwS 3 ht (G_S q_1356 q_1357 q_56 q_1358) rfl rfl rfl hd_79 ⟨Nat.le_of_ble_eq_true rfl, Nat.le_of_ble_eq_true rfl⟩) ⟨PM_blind, PM_pre⟩ rfl rfl hl.1 rfl (lv_room (Nat.le_of_ble_eq_true rfl)) dX11_isSame_69 ⟨show 0 + 0 ≤ 0 by omega, show 0 + 0 ≤ 0 by omega⟩) (fun r12 h => ?_)
        refine lv_iload hx hb dX11_isSame_72 (lv_at hl 0 rfl) ?_
        refine lv_iadd hx hb dX11_isSame_74 ?_
        obtain ⟨z13, h⟩ := h
        refine m_iald hx hb hK hw (by decide) z13 dX11_isSame_75 ?_
        refine lv_aload_n hx hb dX11_isSame_76 rfl (lv_at hl 2 rfl) ?_
        refine m_get (i := 3) hx hb ht hown hK hw (by decide) (ht _ q_1316) rfl rfl dX11_isSame_77 ?_
        refine lv_iload_n hx hb dX11_isSame_80 rfl (lv_at hl 4 rfl) ?_
        refine lv_iconst (v := (0 : Int32)) hx hb dX11_isSame_81 (by decide) ?_
        refine lv_iconst (v := (0 : Int32)) hx hb dX11_isSame_82 (by decide) ?_
        refine P_calli (va_runS (own := "LeastreaderModel") (As := [.int v9, .int (0 : Int32), .int (0 : Int32)]) (rest := [.ref (ad 4), .int (μ 4 (r12 + v6).toNatClampNeg), .int v7]) ⟨hx, hb, hml, hown, ht⟩ (c_X11_key v9 (0 : Int32) (0 : Int32) h) (va_cwS 3 ht (G_S q_1356 q_1357 q_56 q_1358) rfl rfl rfl hd_79 ⟨Nat.le_of_ble_eq_true rfl, Nat.le_of_ble_eq_true rfl⟩) ⟨PM_blind, PM_pre⟩ rfl rfl hl.1 rfl (lv_room (Nat.le_of_ble_eq_true rfl)) dX11_isSame_83 ⟨show 0 + 0 ≤ 0 by omega, show 0 + 0 ≤ 0 by omega⟩) (fun r14 h => ?_)
        refine lv_iload hx hb dX11_isSame_86 (lv_at hl 0 rfl) ?_
        refine lv_iadd hx hb dX11_isSame_88 ?_
        obtain ⟨z15, h⟩ := h
        refine m_iald hx hb hK hw (by decide) z15 dX11_isSame_89 ?_
        refine lv_icmp_ne (tgt := 97) hx hb dX11_isSame_90 (by decide) (fun c16 => ?_) (fun c16 => ?_)
        · have h := h.1 c16
          refine lv_iconst (v := (0 : Int32)) hx hb dX11_isSame_97 (by decide) ?_
          refine lv_iand hx hb dX11_isSame_98 ?_
          refine lv_istore_n (lv' := [(3, .int (v7 &&& (0 : Int32))), (4, .int v6), (0, .ref (ad 0)), (1, .int v8), (2, .int v9)]) hx hb dX11_isSame_99 rfl hl (by decide) rfl (fun ls hl => ?_)
          refine lv_iinc (v := (v6 + (1 : Int32))) (lv' := [(4, .int (v6 + (1 : Int32))), (3, .int (v7 &&& (0 : Int32))), (0, .ref (ad 0)), (1, .int v8), (2, .int v9)]) hx hb dX11_isSame_100 hl (k := 1) rfl rfl (by decide) rfl (fun ls hl => ?_)
          refine lv_goto (tgt := 54) hx hb dX11_isSame_103 (by decide) ?_
          exact ih4 (v6 + (1 : Int32)) (v7 &&& (0 : Int32)) H locs ls hw (lv_sub hl [0, 1, 2, 3, 4] rfl) h
        have h := h.2 c16
        refine lv_iconst (v := (1 : Int32)) hx hb dX11_isSame_93 (by decide) ?_
        refine lv_goto (tgt := 98) hx hb dX11_isSame_94 (by decide) ?_
        refine lv_iand hx hb dX11_isSame_98 ?_
        refine lv_istore_n (lv' := [(3, .int (v7 &&& (1 : Int32))), (4, .int v6), (0, .ref (ad 0)), (1, .int v8), (2, .int v9)]) hx hb dX11_isSame_99 rfl hl (by decide) rfl (fun ls hl => ?_)
        refine lv_iinc (v := (v6 + (1 : Int32))) (lv' := [(4, .int (v6 + (1 : Int32))), (3, .int (v7 &&& (1 : Int32))), (0, .ref (ad 0)), (1, .int v8), (2, .int v9)]) hx hb dX11_isSame_100 hl (k := 1) rfl rfl (by decide) rfl (fun ls hl => ?_)
        refine lv_goto (tgt := 54) hx hb dX11_isSame_103 (by decide) ?_
        exact ih4 (v6 + (1 : Int32)) (v7 &&& (1 : Int32)) H locs ls hw (lv_sub hl [0, 1, 2, 3, 4] rfl) h
    exact L4 a1 a2 n17 (0 : Int32) j4 H locs ls hw (lv_sub hl [0, 1, 2, 3, 4] rfl) h)
  refine lv_icmp_ne (tgt := 49) hx hb dX11_isSame_12 (by decide) (fun c18 => ?_) (fun c18 => ?_)
  · have h := h.1 c18
    refine lv_iconst (v := (0 : Int32)) hx hb dX11_isSame_49 (by decide) ?_
    exact h H locs ls hw (lv_sub hl [0, 1, 2] rfl)
  have h := h.2 c18
  refine lv_aload_n hx hb dX11_isSame_15 rfl (lv_at hl 0 rfl) ?_
  refine m_get (i := 1) hx hb ht hown hK hw (by decide) (ht _ q_1314) rfl rfl dX11_isSame_16 ?_
  refine lv_iload_n hx hb dX11_isSame_19 rfl (lv_at hl 1 rfl) ?_
  obtain ⟨z19, h⟩ := h
  refine m_iald hx hb hK hw (by decide) z19 dX11_isSame_20 ?_
  refine lv_aload_n hx hb dX11_isSame_21 rfl (lv_at hl 0 rfl) ?_
  refine m_get (i := 1) hx hb ht hown hK hw (by decide) (ht _ q_1314) rfl rfl dX11_isSame_22 ?_
  refine lv_iload_n hx hb dX11_isSame_25 rfl (lv_at hl 2 rfl) ?_
  obtain ⟨z20, h⟩ := h
  refine m_iald hx hb hK hw (by decide) z20 dX11_isSame_26 ?_
  refine lv_icmp_ne (tgt := 49) hx hb dX11_isSame_27 (by decide) (fun c21 => ?_) (fun c21 => ?_)
  · have h := h.1 c21
    refine lv_iconst (v := (0 : Int32)) hx hb dX11_isSame_49 (by decide) ?_
    exact h H locs ls hw (lv_sub hl [0, 1, 2] rfl)
  have h := h.2 c21
  refine lv_aload_n hx hb dX11_isSame_30 rfl (lv_at hl 0 rfl) ?_
  refine m_get (i := 2) hx hb ht hown hK hw (by decide) (ht _ q_1315) rfl rfl dX11_isSame_31 ?_
  refine lv_iload_n hx hb dX11_isSame_34 rfl (lv_at hl 1 rfl) ?_
  obtain ⟨z22, h⟩ := h
  refine m_iald hx hb hK hw (by decide) z22 dX11_isSame_35 ?_
  refine lv_aload_n hx hb dX11_isSame_36 rfl (lv_at hl 0 rfl) ?_
  refine m_get (i := 2) hx hb ht hown hK hw (by decide) (ht _ q_1315) rfl rfl dX11_isSame_37 ?_
  refine lv_iload_n hx hb dX11_isSame_40 rfl (lv_at hl 2 rfl) ?_
  obtain ⟨z23, h⟩ := h
  refine m_iald hx hb hK hw (by decide) z23 dX11_isSame_41 ?_
  refine lv_icmp_ne (tgt := 49) hx hb dX11_isSame_42 (by decide) (fun c24 => ?_) (fun c24 => ?_)
  · have h := h.1 c24
    refine lv_iconst (v := (0 : Int32)) hx hb dX11_isSame_49 (by decide) ?_
    exact h H locs ls hw (lv_sub hl [0, 1, 2] rfl)
  have h := h.2 c24
  refine lv_iconst (v := (1 : Int32)) hx hb dX11_isSame_45 (by decide) ?_
  refine lv_goto (tgt := 50) hx hb dX11_isSame_46 (by decide) ?_
  exact h H locs ls hw (lv_sub hl [0, 1, 2] rfl)
end
/-! part 69.r8 -/
section
def wpl_X11_copy_75 (v18 : Int32) (v19 : Int32) (v20 : Int32) (K116 : TMem → Prop) : Nat → Int32 → TMem → Prop
  | 0, _, _ => False
  | n + 1, v17, μ21 =>
    ((21 : Int32) ≤ v17 → (K116 μ21)) ∧ (¬ (21 : Int32) ≤ v17 → (wp_X11_key v20 (0 : Int32) (0 : Int32) (fun (r23 : Int32) => wp_X11_key v19 (0 : Int32) (0 : Int32) (fun (r24 : Int32) => vp_in (r24 + v17) (ml 4) ∧ (vp_in (r23 + v17) (ml 4) ∧ (wpl_X11_copy_75 v18 v19 v20 K116 n (v17 + (1 : Int32)) (tms μ21 4 (r23 + v17).toNatClampNeg (μ21 4 (r24 + v17).toNatClampNeg))))))))
def wp_X11_copy (μ : TMem) (a1 : Int32) (a2 : Int32) (Q : Int32 → TMem → Prop) : Prop :=
  wp_X11_isOne a1 (fun (r1 : Int32) => ∀ J2 : Int32 → Prop, (∀ (j3 : Int32), (wp_X11_isThrown μ j3 (1 : Int32) (fun (r5 : Int32) (μ4 : TMem) => (r5 = 0 → (wp_X11_isSame μ4 a1 a2 (fun (r9 : Int32) => vp_in a1 (ml 1) ∧ (vp_in a2 (ml 1) ∧ (vp_in a1 (ml 2) ∧ (vp_in a2 (ml 2) ∧ (vp_in a1 (ml 3) ∧ (vp_in a2 (ml 3) ∧ (∃ n15x, wpl_X11_copy_75 r9 a1 a2 (fun (μ28 : TMem) => (r9 = 0 → (wp_X11_did μ28 (1 : Int32) (fun (r31 : Int32) (μ30 : TMem) => Q r31 μ30))) ∧ (¬ r9 = 0 → (wp_X11_did μ28 (0 : Int32) (fun (r33 : Int32) (μ32 : TMem) => Q r33 μ32)))) n15x (0 : Int32) (tms (tms (tms μ4 1 a2.toNatClampNeg (μ4 1 a1.toNatClampNeg)) 2 a2.toNatClampNeg ((tms μ4 1 a2.toNatClampNeg (μ4 1 a1.toNatClampNeg)) 2 a1.toNatClampNeg)) 3 a2.toNatClampNeg ((tms (tms μ4 1 a2.toNatClampNeg (μ4 1 a1.toNatClampNeg)) 2 a2.toNatClampNeg ((tms μ4 1 a2.toNatClampNeg (μ4 1 a1.toNatClampNeg)) 2 a1.toNatClampNeg)) 3 a1.toNatClampNeg))))))))))) ∧ (¬ r5 = 0 → (Q (0 : Int32) μ4)))) → J2 j3) → ((r1 = 0 → (J2 (0 : Int32))) ∧ (¬ r1 = 0 → (wp_X11_isOne a2 (fun (r35 : Int32) => (r35 = 0 → (J2 (0 : Int32))) ∧ (¬ r35 = 0 → (J2 (1 : Int32))))))))
set_option maxHeartbeats 4000000 in
set_option maxRecDepth 100000 in
theorem c_X11_copy {l : Launch} {D : va_G} {ad : Nat → Nat} {cI cL : ClassId}  (μ : TMem) (sz : Nat) (a1 : Int32) (a2 : Int32)  {Q : Int32 → TMem → Prop} (h : wp_X11_copy μ a1 a2 Q) : MMi l yX11_copy (.code yX11_copy cX11_copy 5 (Option.some Jvm.ClassFile.FieldType.int)) 2 0 0 [.ref (ad 0), .int a1, .int a2] D ad cI cL sz μ [] Q := by
  refine M_meti (by decide +kernel) (Nat.le_of_ble_eq_true rfl) ?_
  intro p e s m below meth c Z ls hx hb hml hown ht hK hP0 hI hne hw hret hl
  have hl : lv_has ls 5 [(0, .ref (ad 0)), (1, .int a1), (2, .int a2)] := hl
  suffices hh : ∀ (H : Heap) (locs : List Loc), MW D (MR ad cI μ) [] (MA ad s.heap.size) s H locs → W p l e (RA 2 0 0) s m #[.ref (ad 0), .int a1, .int a2] below meth c H locs 0 0 Z (F0 m 0 ls []) from hh _ _ hw
  intro H locs hw
  change wp_X11_isOne a1 (fun (r1 : Int32) => ∀ J2 : Int32 → Prop, (∀ (j3 : Int32), (wp_X11_isThrown μ j3 (1 : Int32) (fun (r5 : Int32) (μ4 : TMem) => (r5 = 0 → (wp_X11_isSame μ4 a1 a2 (fun (r9 : Int32) => vp_in a1 (ml 1) ∧ (vp_in a2 (ml 1) ∧ (vp_in a1 (ml 2) ∧ (vp_in a2 (ml 2) ∧ (vp_in a1 (ml 3) ∧ (vp_in a2 (ml 3) ∧ (∃ n15x, wpl_X11_copy_75 r9 a1 a2 (fun (μ28 : TMem) => (r9 = 0 → (wp_X11_did μ28 (1 : Int32) (fun (r31 : Int32) (μ30 : TMem) => Q r31 μ30))) ∧ (¬ r9 = 0 → (wp_X11_did μ28 (0 : Int32) (fun (r33 : Int32) (μ32 : TMem) => Q r33 μ32)))) n15x (0 : Int32) (tms (tms (tms μ4 1 a2.toNatClampNeg (μ4 1 a1.toNatClampNeg)) 2 a2.toNatClampNeg ((tms μ4 1 a2.toNatClampNeg (μ4 1 a1.toNatClampNeg)) 2 a1.toNatClampNeg)) 3 a2.toNatClampNeg ((tms (tms μ4 1 a2.toNatClampNeg (μ4 1 a1.toNatClampNeg)) 2 a2.toNatClampNeg ((tms μ4 1 a2.toNatClampNeg (μ4 1 a1.toNatClampNeg)) 2 a1.toNatClampNeg)) 3 a1.toNatClampNeg))))))))))) ∧ (¬ r5 = 0 → (Q (0 : Int32) μ4)))) → J2 j3) → ((r1 = 0 → (J2 (0 : Int32))) ∧ (¬ r1 = 0 → (wp_X11_isOne a2 (fun (r35 : Int32) => (r35 = 0 → (J2 (0 : Int32))) ∧ (¬ r35 = 0 → (J2 (1 : Int32)))))))) at h
  refine lv_aload_n hx hb dX11_copy_0 rfl (lv_at hl 0 rfl) ?_
  refine lv_iload_n hx hb dX11_copy_1 rfl (lv_at hl 1 rfl) ?_
  refine P_calli (va_runS (own := "LeastreaderModel") (As := [.int a1]) (rest := [.ref (ad 0)]) ⟨hx, hb, hml, hown, ht⟩ (c_X11_isOne a1 h) (va_cwS 1 ht (G_S q_1342 q_1343 q_56 q_1344) rfl rfl rfl hd_91 ⟨Nat.le_of_ble_eq_true rfl, Nat.le_of_ble_eq_true rfl⟩) ⟨PM_blind, PM_pre⟩ rfl rfl hl.1 rfl (lv_room (Nat.le_of_ble_eq_true rfl)) dX11_copy_2 ⟨show 0 + 0 ≤ 0 by omega, show 0 + 0 ≤ 0 by omega⟩) (fun r1 h => ?_)
  have h := h (fun (j3 : Int32) => ∀ (H : Heap) (locs : List Loc) (ls : Array Slot), MW D (MR ad cI μ) [] (MA ad s.heap.size) s H locs → lv_has ls 5 [(0, .ref (ad 0)), (1, .int a1), (2, .int a2)] → W p l e (RA 2 0 0) s m #[.ref (ad 0), .int a1, .int a2] below meth c H locs 0 0 Z (F0 m 20 ls [.int j3, .ref (ad 0)])) (fun j3 h H locs ls hw hl => by
    refine lv_iconst (v := (1 : Int32)) hx hb dX11_copy_20 (by decide) ?_
    refine M_calli hw (MA.up hw.2.2.1.1) (va_runV (own := "LeastreaderModel") (As := [.int j3, .int (1 : Int32)]) (rest := []) ⟨hx, hb, hml, hown, ht⟩ (c_X11_isThrown μ H.size j3 (1 : Int32) h) (cwV 2 ht (G_V q_1348 q_1350 q_26 q_56 q_1351) rfl rfl rfl ⟨rfl, hd_92⟩ ⟨Nat.le_of_ble_eq_true rfl, Nat.le_of_ble_eq_true rfl⟩) ⟨MB.blind, M_recv hK hw, MB.pre hK hI hw va_P0 ne0⟩ rfl rfl hl.1 rfl (lv_room (Nat.le_of_ble_eq_true rfl)) dX11_copy_21 ⟨show 0 + 0 ≤ 0 by omega, show 0 + 0 ≤ 0 by omega⟩) (fun r5 μ4 H locs h hw => ?_)
    refine lv_if_eq (tgt := 29) hx hb dX11_copy_24 (by decide) (fun c6 => ?_) (fun c6 => ?_)
    · have h := h.1 c6
      refine lv_aload_n hx hb dX11_copy_29 rfl (lv_at hl 0 rfl) ?_
      refine lv_iload_n hx hb dX11_copy_30 rfl (lv_at hl 1 rfl) ?_
      refine lv_iload_n hx hb dX11_copy_31 rfl (lv_at hl 2 rfl) ?_
      refine M_calli hw (MA.up hw.2.2.1.1) (va_runV (own := "LeastreaderModel") (As := [.int a1, .int a2]) (rest := []) ⟨hx, hb, hml, hown, ht⟩ (c_X11_isSame μ4 H.size a1 a2 h) (cwV 2 ht (G_V q_1398 q_1400 q_32 q_56 q_1401) rfl rfl rfl ⟨rfl, hd_98⟩ ⟨Nat.le_of_ble_eq_true rfl, Nat.le_of_ble_eq_true rfl⟩) ⟨MB.blind, M_recv hK hw, MB.pre hK hI hw va_P0 ne0⟩ rfl rfl hl.1 rfl (lv_room (Nat.le_of_ble_eq_true rfl)) dX11_copy_32 ⟨show 0 + 0 ≤ 0 by omega, show 0 + 0 ≤ 0 by omega⟩) (fun r9 μ7 H locs h hw => ?_)
      obtain ⟨e8, h⟩ := h
      rw [e8] at hw
      refine lv_istore_n (lv' := [(3, .int r9), (0, .ref (ad 0)), (1, .int a1), (2, .int a2)]) hx hb dX11_copy_35 rfl hl (by decide) rfl (fun ls hl => ?_)
      refine lv_aload_n hx hb dX11_copy_36 rfl (lv_at hl 1 rfl) ?_
      refine m_get (i := 0) hx hb ht hown hK hw (by decide) (ht _ q_1313) rfl rfl dX11_copy_37 ?_
      refine lv_iload_n hx hb dX11_copy_40 rfl (lv_at hl 3 rfl) ?_
      refine lv_aload_n hx hb dX11_copy_41 rfl (lv_at hl 1 rfl) ?_
      refine m_get (i := 0) hx hb ht hown hK hw (by decide) (ht _ q_1313) rfl rfl dX11_copy_42 ?_
      refine lv_iload_n hx hb dX11_copy_45 rfl (lv_at hl 2 rfl) ?_
      obtain ⟨z10, h⟩ := h
      refine m_iald hx hb hK hw (by decide) z10 dX11_copy_46 ?_
      obtain ⟨z11, h⟩ := h
      refine m_iast hx hb hK hw (by decide) z11 dX11_copy_47 (fun H locs hw => ?_)
      refine lv_aload_n hx hb dX11_copy_48 rfl (lv_at hl 1 rfl) ?_
      refine m_get (i := 1) hx hb ht hown hK hw (by decide) (ht _ q_1314) rfl rfl dX11_copy_49 ?_
      refine lv_iload_n hx hb dX11_copy_52 rfl (lv_at hl 3 rfl) ?_
      refine lv_aload_n hx hb dX11_copy_53 rfl (lv_at hl 1 rfl) ?_
      refine m_get (i := 1) hx hb ht hown hK hw (by decide) (ht _ q_1314) rfl rfl dX11_copy_54 ?_
      refine lv_iload_n hx hb dX11_copy_57 rfl (lv_at hl 2 rfl) ?_
      obtain ⟨z12, h⟩ := h
      refine m_iald hx hb hK hw (by decide) z12 dX11_copy_58 ?_
      obtain ⟨z13, h⟩ := h
      refine m_iast hx hb hK hw (by decide) z13 dX11_copy_59 (fun H locs hw => ?_)
      refine lv_aload_n hx hb dX11_copy_60 rfl (lv_at hl 1 rfl) ?_
      refine m_get (i := 2) hx hb ht hown hK hw (by decide) (ht _ q_1315) rfl rfl dX11_copy_61 ?_
      refine lv_iload_n hx hb dX11_copy_64 rfl (lv_at hl 3 rfl) ?_
      refine lv_aload_n hx hb dX11_copy_65 rfl (lv_at hl 1 rfl) ?_
      refine m_get (i := 2) hx hb ht hown hK hw (by decide) (ht _ q_1315) rfl rfl dX11_copy_66 ?_
      refine lv_iload_n hx hb dX11_copy_69 rfl (lv_at hl 2 rfl) ?_
      obtain ⟨z14, h⟩ := h
      refine m_iald hx hb hK hw (by decide) z14 dX11_copy_70 ?_
      obtain ⟨z15, h⟩ := h
      refine m_iast hx hb hK hw (by decide) z15 dX11_copy_71 (fun H locs hw => ?_)
      refine lv_iconst (v := (0 : Int32)) hx hb dX11_copy_72 (by decide) ?_
      refine lv_istore (lv' := [(4, .int (0 : Int32)), (3, .int r9), (0, .ref (ad 0)), (1, .int a1), (2, .int a2)]) hx hb dX11_copy_73 hl (by decide) rfl (fun ls hl => ?_)
      obtain ⟨n27, h⟩ := h
      have L15 : ∀ (v18 : Int32) (v19 : Int32) (v20 : Int32) (K116 : TMem → Prop), (∀ (μ21 : TMem), ∀ (H : Heap) (locs : List Loc) (ls : Array Slot), MW D (MR ad cI μ21) [] (MA ad s.heap.size) s H locs → lv_has ls 5 [(3, .int v18), (0, .ref (ad 0))] → K116 μ21 → W p l e (RA 2 0 0) s m #[.ref (ad 0), .int a1, .int a2] below meth c H locs 0 0 Z (F0 m 116 ls [])) → ∀ (n : Nat), ∀ (v17 : Int32) (μ21 : TMem), ∀ (H : Heap) (locs : List Loc) (ls : Array Slot), MW D (MR ad cI μ21) [] (MA ad s.heap.size) s H locs → lv_has ls 5 [(4, .int v17), (3, .int v18), (0, .ref (ad 0)), (1, .int v19), (2, .int v20)] → wpl_X11_copy_75 v18 v19 v20 K116 n v17 μ21 → W p l e (RA 2 0 0) s m #[.ref (ad 0), .int a1, .int a2] below meth c H locs 0 0 Z (F0 m 75 ls []) := by
        intro v18 v19 v20 K116 hK116
        intro n
        induction n with
        | zero => intro v17 μ21 H locs ls hw hl h; exact False.elim h
        | succ n ih15 =>
          intro v17 μ21 H locs ls hw hl h
          change ((21 : Int32) ≤ v17 → (K116 μ21)) ∧ (¬ (21 : Int32) ≤ v17 → (wp_X11_key v20 (0 : Int32) (0 : Int32) (fun (r23 : Int32) => wp_X11_key v19 (0 : Int32) (0 : Int32) (fun (r24 : Int32) => vp_in (r24 + v17) (ml 4) ∧ (vp_in (r23 + v17) (ml 4) ∧ (wpl_X11_copy_75 v18 v19 v20 K116 n (v17 + (1 : Int32)) (tms μ21 4 (r23 + v17).toNatClampNeg (μ21 4 (r24 + v17).toNatClampNeg)))))))) at h
          refine lv_iload hx hb dX11_copy_75 (lv_at hl 0 rfl) ?_
          refine lv_bipush (v := (21 : Int32)) hx hb dX11_copy_77 (by decide) ?_
          refine lv_icmp_ge (tgt := 116) hx hb dX11_copy_79 (by decide) (fun c22 => ?_) (fun c22 => ?_)
          · have h := h.1 c22
            exact hK116 μ21 H locs ls hw (lv_sub hl [1, 2] rfl) h
          have h := h.2 c22
          refine lv_aload_n hx hb dX11_copy_82 rfl (lv_at hl 2 rfl) ?_
          refine m_get (i := 3) hx hb ht hown hK hw (by decide) (ht _ q_1316) rfl rfl dX11_copy_83 ?_
          refine lv_iload_n hx hb dX11_copy_86 rfl (lv_at hl 4 rfl) ?_
          refine lv_iconst (v := (0 : Int32)) hx hb dX11_copy_87 (by decide) ?_
          refine lv_iconst (v := (0 : Int32)) hx hb dX11_copy_88 (by decide) ?_
          refine P_calli (va_runS (own := "LeastreaderModel") (As := [.int v20, .int (0 : Int32), .int (0 : Int32)]) (rest := [.ref (ad 4)]) ⟨hx, hb, hml, hown, ht⟩ (c_X11_key v20 (0 : Int32) (0 : Int32) h) (va_cwS 3 ht (G_S q_1356 q_1357 q_56 q_1358) rfl rfl rfl hd_79 ⟨Nat.le_of_ble_eq_true rfl, Nat.le_of_ble_eq_true rfl⟩) ⟨PM_blind, PM_pre⟩ rfl rfl hl.1 rfl (lv_room (Nat.le_of_ble_eq_true rfl)) dX11_copy_89 ⟨show 0 + 0 ≤ 0 by omega, show 0 + 0 ≤ 0 by omega⟩) (fun r23 h => ?_)
          refine lv_iload hx hb dX11_copy_92 (lv_at hl 0 rfl) ?_
          refine lv_iadd hx hb dX11_copy_94 ?_
          refine lv_aload_n hx hb dX11_copy_95 rfl (lv_at hl 2 rfl) ?_
          refine m_get (i := 3) hx hb ht hown hK hw (by decide) (ht _ q_1316) rfl rfl dX11_copy_96 ?_
          refine lv_iload_n hx hb dX11_copy_99 rfl (lv_at hl 3 rfl) ?_
          refine lv_iconst (v := (0 : Int32)) hx hb dX11_copy_100 (by decide) ?_
          refine lv_iconst (v := (0 : Int32)) hx hb dX11_copy_101 (by decide) ?_
          refine P_calli (va_runS (own := "LeastreaderModel") (As := [.int v19, .int (0 : Int32), .int (0 : Int32)]) (rest := [.ref (ad 4), .int (r23 + v17), .ref (ad 4)]) ⟨hx, hb, hml, hown, ht⟩ (c_X11_key v19 (0 : Int32) (0 : Int32) h) (va_cwS 3 ht (G_S q_1356 q_1357 q_56 q_1358) rfl rfl rfl hd_79 ⟨Nat.le_of_ble_eq_true rfl, Nat.le_of_ble_eq_true rfl⟩) ⟨PM_blind, PM_pre⟩ rfl rfl hl.1 rfl (lv_room (Nat.le_of_ble_eq_true rfl)) dX11_copy_102 ⟨show 0 + 0 ≤ 0 by omega, show 0 + 0 ≤ 0 by omega⟩) (fun r24 h => ?_)
          refine lv_iload hx hb dX11_copy_105 (lv_at hl 0 rfl) ?_
          refine lv_iadd hx hb dX11_copy_107 ?_
          obtain ⟨z25, h⟩ := h
          refine m_iald hx hb hK hw (by decide) z25 dX11_copy_108 ?_
          obtain ⟨z26, h⟩ := h
          refine m_iast hx hb hK hw (by decide) z26 dX11_copy_109 (fun H locs hw => ?_)
          refine lv_iinc (v := (v17 + (1 : Int32))) (lv' := [(4, .int (v17 + (1 : Int32))), (3, .int v18), (0, .ref (ad 0)), (1, .int v19), (2, .int v20)]) hx hb dX11_copy_110 hl (k := 0) rfl rfl (by decide) rfl (fun ls hl => ?_)
          refine lv_goto (tgt := 75) hx hb dX11_copy_113 (by decide) ?_
          exact ih15 (v17 + (1 : Int32)) (tms μ21 4 (r23 + v17).toNatClampNeg (μ21 4 (r24 + v17).toNatClampNeg)) H locs ls hw (lv_sub hl [0, 1, 2, 3, 4] rfl) h
      refine L15 r9 a1 a2 _ ?_ n27 (0 : Int32) (tms (tms (tms μ4 1 a2.toNatClampNeg (μ4 1 a1.toNatClampNeg)) 2 a2.toNatClampNeg ((tms μ4 1 a2.toNatClampNeg (μ4 1 a1.toNatClampNeg)) 2 a1.toNatClampNeg)) 3 a2.toNatClampNeg ((tms (tms μ4 1 a2.toNatClampNeg (μ4 1 a1.toNatClampNeg)) 2 a2.toNatClampNeg ((tms μ4 1 a2.toNatClampNeg (μ4 1 a1.toNatClampNeg)) 2 a1.toNatClampNeg)) 3 a1.toNatClampNeg)) H locs ls hw (lv_sub hl [0, 1, 2, 3, 4] rfl) h
      intro μ28 H locs ls hw hl h
      refine lv_aload_n hx hb dX11_copy_116 rfl (lv_at hl 1 rfl) ?_
      refine lv_iload_n hx hb dX11_copy_117 rfl (lv_at hl 0 rfl) ?_
      refine lv_if_eq (tgt := 125) hx hb dX11_copy_118 (by decide) (fun c29 => ?_) (fun c29 => ?_)
      · have h := h.1 c29
        refine lv_iconst (v := (1 : Int32)) hx hb dX11_copy_125 (by decide) ?_
        refine M_calli hw (MA.up hw.2.2.1.1) (va_runV (own := "LeastreaderModel") (As := [.int (1 : Int32)]) (rest := []) ⟨hx, hb, hml, hown, ht⟩ (c_X11_did μ28 H.size (1 : Int32) h) (cwV 1 ht (G_V q_1364 q_1366 q_29 q_56 q_1367) rfl rfl rfl ⟨rfl, hd_95⟩ ⟨Nat.le_of_ble_eq_true rfl, Nat.le_of_ble_eq_true rfl⟩) ⟨MB.blind, M_recv hK hw, MB.pre hK hI hw va_P0 ne0⟩ rfl rfl hl.1 rfl (lv_room (Nat.le_of_ble_eq_true rfl)) dX11_copy_126 ⟨show 0 + 0 ≤ 0 by omega, show 0 + 0 ≤ 0 by omega⟩) (fun r31 μ30 H locs h hw => ?_)
        exact hret H locs ls 129 _ _ _ _ _ hw h rfl (show 0 ≤ 0 by omega) (show 0 ≤ 0 by omega) dX11_copy_129
      have h := h.2 c29
      refine lv_iconst (v := (0 : Int32)) hx hb dX11_copy_121 (by decide) ?_
      refine lv_goto (tgt := 126) hx hb dX11_copy_122 (by decide) ?_
      refine M_calli hw (MA.up hw.2.2.1.1) (va_runV (own := "LeastreaderModel") (As := [.int (0 : Int32)]) (rest := []) ⟨hx, hb, hml, hown, ht⟩ (c_X11_did μ28 H.size (0 : Int32) h) (cwV 1 ht (G_V q_1364 q_1366 q_29 q_56 q_1367) rfl rfl rfl ⟨rfl, hd_95⟩ ⟨Nat.le_of_ble_eq_true rfl, Nat.le_of_ble_eq_true rfl⟩) ⟨MB.blind, M_recv hK hw, MB.pre hK hI hw va_P0 ne0⟩ rfl rfl hl.1 rfl (lv_room (Nat.le_of_ble_eq_true rfl)) dX11_copy_126 ⟨show 0 + 0 ≤ 0 by omega, show 0 + 0 ≤ 0 by omega⟩) (fun r33 μ32 H locs h hw => ?_)
      exact hret H locs ls 129 _ _ _ _ _ hw h rfl (show 0 ≤ 0 by omega) (show 0 ≤ 0 by omega) dX11_copy_129
    have h := h.2 c6
    refine lv_iconst (v := (0 : Int32)) hx hb dX11_copy_27 (by decide) ?_
    exact hret H locs ls 28 _ _ _ _ _ hw h rfl (show 0 ≤ 0 by omega) (show 0 ≤ 0 by omega) dX11_copy_28)
  refine lv_if_eq (tgt := 19) hx hb dX11_copy_5 (by decide) (fun c34 => ?_) (fun c34 => ?_)
  · have h := h.1 c34
    refine lv_iconst (v := (0 : Int32)) hx hb dX11_copy_19 (by decide) ?_
    exact h H locs ls hw (lv_sub hl [0, 1, 2] rfl)
  have h := h.2 c34
  refine lv_iload_n hx hb dX11_copy_8 rfl (lv_at hl 2 rfl) ?_
  refine P_calli (va_runS (own := "LeastreaderModel") (As := [.int a2]) (rest := [.ref (ad 0)]) ⟨hx, hb, hml, hown, ht⟩ (c_X11_isOne a2 h) (va_cwS 1 ht (G_S q_1342 q_1343 q_56 q_1344) rfl rfl rfl hd_91 ⟨Nat.le_of_ble_eq_true rfl, Nat.le_of_ble_eq_true rfl⟩) ⟨PM_blind, PM_pre⟩ rfl rfl hl.1 rfl (lv_room (Nat.le_of_ble_eq_true rfl)) dX11_copy_9 ⟨show 0 + 0 ≤ 0 by omega, show 0 + 0 ≤ 0 by omega⟩) (fun r35 h => ?_)
  refine lv_if_eq (tgt := 19) hx hb dX11_copy_12 (by decide) (fun c36 => ?_) (fun c36 => ?_)
  · have h := h.1 c36
    refine lv_iconst (v := (0 : Int32)) hx hb dX11_copy_19 (by decide) ?_
    exact h H locs ls hw (lv_sub hl [0, 1, 2] rfl)
  have h := h.2 c36
  refine lv_iconst (v := (1 : Int32)) hx hb dX11_copy_15 (by decide) ?_
  refine lv_goto (tgt := 20) hx hb dX11_copy_16 (by decide) ?_
  exact h H locs ls hw (lv_sub hl [0, 1, 2] rfl)
def wp_X11_exchange (μ : TMem) (k1 : Nat) (a2 : Int32) (a3 : Int32) (Q : TMem → Prop) : Prop :=
  vp_in a2 (ml k1) ∧ (vp_in a3 (ml k1) ∧ (vp_in a2 (ml k1) ∧ (vp_in a3 (ml k1) ∧ (Q (tms (tms μ k1 a2.toNatClampNeg (μ k1 a3.toNatClampNeg)) k1 a3.toNatClampNeg (μ k1 a2.toNatClampNeg))))))
set_option maxHeartbeats 4000000 in
set_option maxRecDepth 100000 in
theorem c_X11_exchange {l : Launch} {D : va_G} {ad : Nat → Nat} {cI cL : ClassId}  (μ : TMem) (sz : Nat) (k1 : Nat) (a2 : Int32) (a3 : Int32) (hk1 : 1 ≤ k1 ∧ k1 < 5) {Q : TMem → Prop} (h : wp_X11_exchange μ k1 a2 a3 Q) : MMv l yX11_exchange (.code yX11_exchange cX11_exchange 4 (Option.none : Option Jvm.ClassFile.FieldType)) 0 0 0 [.ref (ad k1), .int a2, .int a3] D ad cI cL sz μ [] Q := by
  refine M_metv (by decide +kernel) (Nat.le_of_ble_eq_true rfl) ?_
  intro p e s m below meth c Z ls hx hb hml hown ht hK hP0 hI hne hw hret hl
  have hl : lv_has ls 4 [(0, .ref (ad k1)), (1, .int a2), (2, .int a3)] := hl
  suffices hh : ∀ (H : Heap) (locs : List Loc), MW D (MR ad cI μ) [] (MA ad s.heap.size) s H locs → W p l e (RA 0 0 0) s m #[.ref (ad k1), .int a2, .int a3] below meth c H locs 0 0 Z (F0 m 0 ls []) from hh _ _ hw
  intro H locs hw
  change vp_in a2 (ml k1) ∧ (vp_in a3 (ml k1) ∧ (vp_in a2 (ml k1) ∧ (vp_in a3 (ml k1) ∧ (Q (tms (tms μ k1 a2.toNatClampNeg (μ k1 a3.toNatClampNeg)) k1 a3.toNatClampNeg (μ k1 a2.toNatClampNeg)))))) at h
  refine lv_aload_n hx hb dX11_exchange_0 rfl (lv_at hl 0 rfl) ?_
  refine lv_iload_n hx hb dX11_exchange_1 rfl (lv_at hl 1 rfl) ?_
  obtain ⟨z1, h⟩ := h
  refine m_iald hx hb hK hw hk1 z1 dX11_exchange_2 ?_
  refine lv_istore_n (lv' := [(3, .int (μ k1 a2.toNatClampNeg)), (0, .ref (ad k1)), (1, .int a2), (2, .int a3)]) hx hb dX11_exchange_3 rfl hl (by decide) rfl (fun ls hl => ?_)
  refine lv_aload_n hx hb dX11_exchange_4 rfl (lv_at hl 1 rfl) ?_
  refine lv_iload_n hx hb dX11_exchange_5 rfl (lv_at hl 2 rfl) ?_
  refine lv_aload_n hx hb dX11_exchange_6 rfl (lv_at hl 1 rfl) ?_
  refine lv_iload_n hx hb dX11_exchange_7 rfl (lv_at hl 3 rfl) ?_
  obtain ⟨z2, h⟩ := h
  refine m_iald hx hb hK hw hk1 z2 dX11_exchange_8 ?_
  obtain ⟨z3, h⟩ := h
  refine m_iast hx hb hK hw hk1 z3 dX11_exchange_9 (fun H locs hw => ?_)
  refine lv_aload_n hx hb dX11_exchange_10 rfl (lv_at hl 1 rfl) ?_
  refine lv_iload_n hx hb dX11_exchange_11 rfl (lv_at hl 3 rfl) ?_
  refine lv_iload_n hx hb dX11_exchange_12 rfl (lv_at hl 0 rfl) ?_
  obtain ⟨z4, h⟩ := h
  refine m_iast hx hb hK hw hk1 z4 dX11_exchange_13 (fun H locs hw => ?_)
  exact hret H locs ls 14 _ _ _ _ hw h (show 0 ≤ 0 by omega) (show 0 ≤ 0 by omega) dX11_exchange_14
def wpl_X11_swap_66 (v15 : Int32) (v16 : Int32) (v17 : Int32) (K104 : TMem → Prop) : Nat → Int32 → TMem → Prop
  | 0, _, _ => False
  | n + 1, v14, μ18 =>
    ((21 : Int32) ≤ v14 → (K104 μ18)) ∧ (¬ (21 : Int32) ≤ v14 → (wp_X11_key v16 (0 : Int32) (0 : Int32) (fun (r20 : Int32) => wp_X11_key v17 (0 : Int32) (0 : Int32) (fun (r21 : Int32) => wp_X11_exchange μ18 4 (r20 + v14) (r21 + v14) (fun (μ22 : TMem) => wpl_X11_swap_66 v15 v16 v17 K104 n (v14 + (1 : Int32)) μ22)))))
def wp_X11_swap (μ : TMem) (a1 : Int32) (a2 : Int32) (Q : Int32 → TMem → Prop) : Prop :=
  wp_X11_isOne a1 (fun (r1 : Int32) => ∀ J2 : Int32 → Prop, (∀ (j3 : Int32), (wp_X11_isThrown μ j3 (1 : Int32) (fun (r5 : Int32) (μ4 : TMem) => (r5 = 0 → (wp_X11_isSame μ4 a1 a2 (fun (r9 : Int32) => wp_X11_exchange μ4 1 a1 a2 (fun (μ10 : TMem) => wp_X11_exchange μ10 2 a1 a2 (fun (μ11 : TMem) => wp_X11_exchange μ11 3 a1 a2 (fun (μ12 : TMem) => ∃ n12x, wpl_X11_swap_66 r9 a1 a2 (fun (μ24 : TMem) => (r9 = 0 → (wp_X11_did μ24 (1 : Int32) (fun (r27 : Int32) (μ26 : TMem) => Q r27 μ26))) ∧ (¬ r9 = 0 → (wp_X11_did μ24 (0 : Int32) (fun (r29 : Int32) (μ28 : TMem) => Q r29 μ28)))) n12x (0 : Int32) μ12)))))) ∧ (¬ r5 = 0 → (Q (0 : Int32) μ4)))) → J2 j3) → ((r1 = 0 → (J2 (0 : Int32))) ∧ (¬ r1 = 0 → (wp_X11_isOne a2 (fun (r31 : Int32) => (r31 = 0 → (J2 (0 : Int32))) ∧ (¬ r31 = 0 → (J2 (1 : Int32))))))))
set_option maxHeartbeats 4000000 in
set_option maxRecDepth 100000 in
theorem c_X11_swap {l : Launch} {D : va_G} {ad : Nat → Nat} {cI cL : ClassId}  (μ : TMem) (sz : Nat) (a1 : Int32) (a2 : Int32)  {Q : Int32 → TMem → Prop} (h : wp_X11_swap μ a1 a2 Q) : MMi l yX11_swap (.code yX11_swap cX11_swap 5 (Option.some Jvm.ClassFile.FieldType.int)) 2 0 0 [.ref (ad 0), .int a1, .int a2] D ad cI cL sz μ [] Q := by
  refine M_meti (by decide +kernel) (Nat.le_of_ble_eq_true rfl) ?_
  intro p e s m below meth c Z ls hx hb hml hown ht hK hP0 hI hne hw hret hl
  have hl : lv_has ls 5 [(0, .ref (ad 0)), (1, .int a1), (2, .int a2)] := hl
  suffices hh : ∀ (H : Heap) (locs : List Loc), MW D (MR ad cI μ) [] (MA ad s.heap.size) s H locs → W p l e (RA 2 0 0) s m #[.ref (ad 0), .int a1, .int a2] below meth c H locs 0 0 Z (F0 m 0 ls []) from hh _ _ hw
  intro H locs hw
  change wp_X11_isOne a1 (fun (r1 : Int32) => ∀ J2 : Int32 → Prop, (∀ (j3 : Int32), (wp_X11_isThrown μ j3 (1 : Int32) (fun (r5 : Int32) (μ4 : TMem) => (r5 = 0 → (wp_X11_isSame μ4 a1 a2 (fun (r9 : Int32) => wp_X11_exchange μ4 1 a1 a2 (fun (μ10 : TMem) => wp_X11_exchange μ10 2 a1 a2 (fun (μ11 : TMem) => wp_X11_exchange μ11 3 a1 a2 (fun (μ12 : TMem) => ∃ n12x, wpl_X11_swap_66 r9 a1 a2 (fun (μ24 : TMem) => (r9 = 0 → (wp_X11_did μ24 (1 : Int32) (fun (r27 : Int32) (μ26 : TMem) => Q r27 μ26))) ∧ (¬ r9 = 0 → (wp_X11_did μ24 (0 : Int32) (fun (r29 : Int32) (μ28 : TMem) => Q r29 μ28)))) n12x (0 : Int32) μ12)))))) ∧ (¬ r5 = 0 → (Q (0 : Int32) μ4)))) → J2 j3) → ((r1 = 0 → (J2 (0 : Int32))) ∧ (¬ r1 = 0 → (wp_X11_isOne a2 (fun (r31 : Int32) => (r31 = 0 → (J2 (0 : Int32))) ∧ (¬ r31 = 0 → (J2 (1 : Int32)))))))) at h
  refine lv_aload_n hx hb dX11_swap_0 rfl (lv_at hl 0 rfl) ?_
  refine lv_iload_n hx hb dX11_swap_1 rfl (lv_at hl 1 rfl) ?_
  refine P_calli (va_runS (own := "LeastreaderModel") (As := [.int a1]) (rest := [.ref (ad 0)]) ⟨hx, hb, hml, hown, ht⟩ (c_X11_isOne a1 h) (va_cwS 1 ht (G_S q_1342 q_1343 q_56 q_1344) rfl rfl rfl hd_91 ⟨Nat.le_of_ble_eq_true rfl, Nat.le_of_ble_eq_true rfl⟩) ⟨PM_blind, PM_pre⟩ rfl rfl hl.1 rfl (lv_room (Nat.le_of_ble_eq_true rfl)) dX11_swap_2 ⟨show 0 + 0 ≤ 0 by omega, show 0 + 0 ≤ 0 by omega⟩) (fun r1 h => ?_)
  have h := h (fun (j3 : Int32) => ∀ (H : Heap) (locs : List Loc) (ls : Array Slot), MW D (MR ad cI μ) [] (MA ad s.heap.size) s H locs → lv_has ls 5 [(0, .ref (ad 0)), (1, .int a1), (2, .int a2)] → W p l e (RA 2 0 0) s m #[.ref (ad 0), .int a1, .int a2] below meth c H locs 0 0 Z (F0 m 20 ls [.int j3, .ref (ad 0)])) (fun j3 h H locs ls hw hl => by
    refine lv_iconst (v := (1 : Int32)) hx hb dX11_swap_20 (by decide) ?_
    refine M_calli hw (MA.up hw.2.2.1.1) (va_runV (own := "LeastreaderModel") (As := [.int j3, .int (1 : Int32)]) (rest := []) ⟨hx, hb, hml, hown, ht⟩ (c_X11_isThrown μ H.size j3 (1 : Int32) h) (cwV 2 ht (G_V q_1348 q_1350 q_26 q_56 q_1351) rfl rfl rfl ⟨rfl, hd_92⟩ ⟨Nat.le_of_ble_eq_true rfl, Nat.le_of_ble_eq_true rfl⟩) ⟨MB.blind, M_recv hK hw, MB.pre hK hI hw va_P0 ne0⟩ rfl rfl hl.1 rfl (lv_room (Nat.le_of_ble_eq_true rfl)) dX11_swap_21 ⟨show 0 + 0 ≤ 0 by omega, show 0 + 0 ≤ 0 by omega⟩) (fun r5 μ4 H locs h hw => ?_)
    refine lv_if_eq (tgt := 29) hx hb dX11_swap_24 (by decide) (fun c6 => ?_) (fun c6 => ?_)
    · have h := h.1 c6
      refine lv_aload_n hx hb dX11_swap_29 rfl (lv_at hl 0 rfl) ?_
      refine lv_iload_n hx hb dX11_swap_30 rfl (lv_at hl 1 rfl) ?_
      refine lv_iload_n hx hb dX11_swap_31 rfl (lv_at hl 2 rfl) ?_
      refine M_calli hw (MA.up hw.2.2.1.1) (va_runV (own := "LeastreaderModel") (As := [.int a1, .int a2]) (rest := []) ⟨hx, hb, hml, hown, ht⟩ (c_X11_isSame μ4 H.size a1 a2 h) (cwV 2 ht (G_V q_1398 q_1400 q_32 q_56 q_1401) rfl rfl rfl ⟨rfl, hd_98⟩ ⟨Nat.le_of_ble_eq_true rfl, Nat.le_of_ble_eq_true rfl⟩) ⟨MB.blind, M_recv hK hw, MB.pre hK hI hw va_P0 ne0⟩ rfl rfl hl.1 rfl (lv_room (Nat.le_of_ble_eq_true rfl)) dX11_swap_32 ⟨show 0 + 0 ≤ 0 by omega, show 0 + 0 ≤ 0 by omega⟩) (fun r9 μ7 H locs h hw => ?_)
      obtain ⟨e8, h⟩ := h
      rw [e8] at hw
      refine lv_istore_n (lv' := [(3, .int r9), (0, .ref (ad 0)), (1, .int a1), (2, .int a2)]) hx hb dX11_swap_35 rfl hl (by decide) rfl (fun ls hl => ?_)
      refine lv_aload_n hx hb dX11_swap_36 rfl (lv_at hl 1 rfl) ?_
      refine m_get (i := 0) hx hb ht hown hK hw (by decide) (ht _ q_1313) rfl rfl dX11_swap_37 ?_
      refine lv_iload_n hx hb dX11_swap_40 rfl (lv_at hl 2 rfl) ?_
      refine lv_iload_n hx hb dX11_swap_41 rfl (lv_at hl 3 rfl) ?_
      refine M_callv hw (MA.up hw.2.2.1.1) (va_runS (own := "LeastreaderModel") (As := [.ref (ad 1), .int a1, .int a2]) (rest := []) ⟨hx, hb, hml, hown, ht⟩ (c_X11_exchange μ4 H.size 1 a1 a2 (by decide) h) (va_cwS 3 ht (G_S q_1406 q_1407 q_56 q_1408) rfl rfl rfl hd_99 ⟨Nat.le_of_ble_eq_true rfl, Nat.le_of_ble_eq_true rfl⟩) ⟨MB.blind, MB.pre hK hI hw va_P0 ne0⟩ rfl rfl hl.1 rfl (lv_room (Nat.le_of_ble_eq_true rfl)) dX11_swap_42 ⟨show 0 + 0 ≤ 0 by omega, show 0 + 0 ≤ 0 by omega⟩) (fun μ10 H locs h hw => ?_)
      refine lv_aload_n hx hb dX11_swap_45 rfl (lv_at hl 1 rfl) ?_
      refine m_get (i := 1) hx hb ht hown hK hw (by decide) (ht _ q_1314) rfl rfl dX11_swap_46 ?_
      refine lv_iload_n hx hb dX11_swap_49 rfl (lv_at hl 2 rfl) ?_
      refine lv_iload_n hx hb dX11_swap_50 rfl (lv_at hl 3 rfl) ?_
      refine M_callv hw (MA.up hw.2.2.1.1) (va_runS (own := "LeastreaderModel") (As := [.ref (ad 2), .int a1, .int a2]) (rest := []) ⟨hx, hb, hml, hown, ht⟩ (c_X11_exchange μ10 H.size 2 a1 a2 (by decide) h) (va_cwS 3 ht (G_S q_1406 q_1407 q_56 q_1408) rfl rfl rfl hd_99 ⟨Nat.le_of_ble_eq_true rfl, Nat.le_of_ble_eq_true rfl⟩) ⟨MB.blind, MB.pre hK hI hw va_P0 ne0⟩ rfl rfl hl.1 rfl (lv_room (Nat.le_of_ble_eq_true rfl)) dX11_swap_51 ⟨show 0 + 0 ≤ 0 by omega, show 0 + 0 ≤ 0 by omega⟩) (fun μ11 H locs h hw => ?_)
      refine lv_aload_n hx hb dX11_swap_54 rfl (lv_at hl 1 rfl) ?_
      refine m_get (i := 2) hx hb ht hown hK hw (by decide) (ht _ q_1315) rfl rfl dX11_swap_55 ?_
      refine lv_iload_n hx hb dX11_swap_58 rfl (lv_at hl 2 rfl) ?_
      refine lv_iload_n hx hb dX11_swap_59 rfl (lv_at hl 3 rfl) ?_
      refine M_callv hw (MA.up hw.2.2.1.1) (va_runS (own := "LeastreaderModel") (As := [.ref (ad 3), .int a1, .int a2]) (rest := []) ⟨hx, hb, hml, hown, ht⟩ (c_X11_exchange μ11 H.size 3 a1 a2 (by decide) h) (va_cwS 3 ht (G_S q_1406 q_1407 q_56 q_1408) rfl rfl rfl hd_99 ⟨Nat.le_of_ble_eq_true rfl, Nat.le_of_ble_eq_true rfl⟩) ⟨MB.blind, MB.pre hK hI hw va_P0 ne0⟩ rfl rfl hl.1 rfl (lv_room (Nat.le_of_ble_eq_true rfl)) dX11_swap_60 ⟨show 0 + 0 ≤ 0 by omega, show 0 + 0 ≤ 0 by omega⟩) (fun μ12 H locs h hw => ?_)
      refine lv_iconst (v := (0 : Int32)) hx hb dX11_swap_63 (by decide) ?_
      refine lv_istore (lv' := [(4, .int (0 : Int32)), (3, .int r9), (0, .ref (ad 0)), (1, .int a1), (2, .int a2)]) hx hb dX11_swap_64 hl (by decide) rfl (fun ls hl => ?_)
      obtain ⟨n23, h⟩ := h
      have L12 : ∀ (v15 : Int32) (v16 : Int32) (v17 : Int32) (K104 : TMem → Prop), (∀ (μ18 : TMem), ∀ (H : Heap) (locs : List Loc) (ls : Array Slot), MW D (MR ad cI μ18) [] (MA ad s.heap.size) s H locs → lv_has ls 5 [(3, .int v15), (0, .ref (ad 0))] → K104 μ18 → W p l e (RA 2 0 0) s m #[.ref (ad 0), .int a1, .int a2] below meth c H locs 0 0 Z (F0 m 104 ls [])) → ∀ (n : Nat), ∀ (v14 : Int32) (μ18 : TMem), ∀ (H : Heap) (locs : List Loc) (ls : Array Slot), MW D (MR ad cI μ18) [] (MA ad s.heap.size) s H locs → lv_has ls 5 [(4, .int v14), (3, .int v15), (0, .ref (ad 0)), (1, .int v16), (2, .int v17)] → wpl_X11_swap_66 v15 v16 v17 K104 n v14 μ18 → W p l e (RA 2 0 0) s m #[.ref (ad 0), .int a1, .int a2] below meth c H locs 0 0 Z (F0 m 66 ls []) := by
        intro v15 v16 v17 K104 hK104
        intro n
        induction n with
        | zero => intro v14 μ18 H locs ls hw hl h; exact False.elim h
        | succ n ih12 =>
          intro v14 μ18 H locs ls hw hl h
          change ((21 : Int32) ≤ v14 → (K104 μ18)) ∧ (¬ (21 : Int32) ≤ v14 → (wp_X11_key v16 (0 : Int32) (0 : Int32) (fun (r20 : Int32) => wp_X11_key v17 (0 : Int32) (0 : Int32) (fun (r21 : Int32) => wp_X11_exchange μ18 4 (r20 + v14) (r21 + v14) (fun (μ22 : TMem) => wpl_X11_swap_66 v15 v16 v17 K104 n (v14 + (1 : Int32)) μ22))))) at h
          refine lv_iload hx hb dX11_swap_66 (lv_at hl 0 rfl) ?_
          refine lv_bipush (v := (21 : Int32)) hx hb dX11_swap_68 (by decide) ?_
          refine lv_icmp_ge (tgt := 104) hx hb dX11_swap_70 (by decide) (fun c19 => ?_) (fun c19 => ?_)
          · have h := h.1 c19
            exact hK104 μ18 H locs ls hw (lv_sub hl [1, 2] rfl) h
          have h := h.2 c19
          refine lv_aload_n hx hb dX11_swap_73 rfl (lv_at hl 2 rfl) ?_
          refine m_get (i := 3) hx hb ht hown hK hw (by decide) (ht _ q_1316) rfl rfl dX11_swap_74 ?_
          refine lv_iload_n hx hb dX11_swap_77 rfl (lv_at hl 3 rfl) ?_
          refine lv_iconst (v := (0 : Int32)) hx hb dX11_swap_78 (by decide) ?_
          refine lv_iconst (v := (0 : Int32)) hx hb dX11_swap_79 (by decide) ?_
          refine P_calli (va_runS (own := "LeastreaderModel") (As := [.int v16, .int (0 : Int32), .int (0 : Int32)]) (rest := [.ref (ad 4)]) ⟨hx, hb, hml, hown, ht⟩ (c_X11_key v16 (0 : Int32) (0 : Int32) h) (va_cwS 3 ht (G_S q_1356 q_1357 q_56 q_1358) rfl rfl rfl hd_79 ⟨Nat.le_of_ble_eq_true rfl, Nat.le_of_ble_eq_true rfl⟩) ⟨PM_blind, PM_pre⟩ rfl rfl hl.1 rfl (lv_room (Nat.le_of_ble_eq_true rfl)) dX11_swap_80 ⟨show 0 + 0 ≤ 0 by omega, show 0 + 0 ≤ 0 by omega⟩) (fun r20 h => ?_)
          refine lv_iload hx hb dX11_swap_83 (lv_at hl 0 rfl) ?_
          refine lv_iadd hx hb dX11_swap_85 ?_
          refine lv_iload_n hx hb dX11_swap_86 rfl (lv_at hl 4 rfl) ?_
          refine lv_iconst (v := (0 : Int32)) hx hb dX11_swap_87 (by decide) ?_
          refine lv_iconst (v := (0 : Int32)) hx hb dX11_swap_88 (by decide) ?_
          refine P_calli (va_runS (own := "LeastreaderModel") (As := [.int v17, .int (0 : Int32), .int (0 : Int32)]) (rest := [.int (r20 + v14), .ref (ad 4)]) ⟨hx, hb, hml, hown, ht⟩ (c_X11_key v17 (0 : Int32) (0 : Int32) h) (va_cwS 3 ht (G_S q_1356 q_1357 q_56 q_1358) rfl rfl rfl hd_79 ⟨Nat.le_of_ble_eq_true rfl, Nat.le_of_ble_eq_true rfl⟩) ⟨PM_blind, PM_pre⟩ rfl rfl hl.1 rfl (lv_room (Nat.le_of_ble_eq_true rfl)) dX11_swap_89 ⟨show 0 + 0 ≤ 0 by omega, show 0 + 0 ≤ 0 by omega⟩) (fun r21 h => ?_)
          refine lv_iload hx hb dX11_swap_92 (lv_at hl 0 rfl) ?_
          refine lv_iadd hx hb dX11_swap_94 ?_
          refine M_callv hw (MA.up hw.2.2.1.1) (va_runS (own := "LeastreaderModel") (As := [.ref (ad 4), .int (r20 + v14), .int (r21 + v14)]) (rest := []) ⟨hx, hb, hml, hown, ht⟩ (c_X11_exchange μ18 H.size 4 (r20 + v14) (r21 + v14) (by decide) h) (va_cwS 3 ht (G_S q_1406 q_1407 q_56 q_1408) rfl rfl rfl hd_99 ⟨Nat.le_of_ble_eq_true rfl, Nat.le_of_ble_eq_true rfl⟩) ⟨MB.blind, MB.pre hK hI hw va_P0 ne0⟩ rfl rfl hl.1 rfl (lv_room (Nat.le_of_ble_eq_true rfl)) dX11_swap_95 ⟨show 0 + 0 ≤ 0 by omega, show 0 + 0 ≤ 0 by omega⟩) (fun μ22 H locs h hw => ?_)
          refine lv_iinc (v := (v14 + (1 : Int32))) (lv' := [(4, .int (v14 + (1 : Int32))), (3, .int v15), (0, .ref (ad 0)), (1, .int v16), (2, .int v17)]) hx hb dX11_swap_98 hl (k := 0) rfl rfl (by decide) rfl (fun ls hl => ?_)
          refine lv_goto (tgt := 66) hx hb dX11_swap_101 (by decide) ?_
          exact ih12 (v14 + (1 : Int32)) μ22 H locs ls hw (lv_sub hl [0, 1, 2, 3, 4] rfl) h
      refine L12 r9 a1 a2 _ ?_ n23 (0 : Int32) μ12 H locs ls hw (lv_sub hl [0, 1, 2, 3, 4] rfl) h
      intro μ24 H locs ls hw hl h
      refine lv_aload_n hx hb dX11_swap_104 rfl (lv_at hl 1 rfl) ?_
      refine lv_iload_n hx hb dX11_swap_105 rfl (lv_at hl 0 rfl) ?_
      refine lv_if_eq (tgt := 113) hx hb dX11_swap_106 (by decide) (fun c25 => ?_) (fun c25 => ?_)
      · have h := h.1 c25
        refine lv_iconst (v := (1 : Int32)) hx hb dX11_swap_113 (by decide) ?_
        refine M_calli hw (MA.up hw.2.2.1.1) (va_runV (own := "LeastreaderModel") (As := [.int (1 : Int32)]) (rest := []) ⟨hx, hb, hml, hown, ht⟩ (c_X11_did μ24 H.size (1 : Int32) h) (cwV 1 ht (G_V q_1364 q_1366 q_29 q_56 q_1367) rfl rfl rfl ⟨rfl, hd_95⟩ ⟨Nat.le_of_ble_eq_true rfl, Nat.le_of_ble_eq_true rfl⟩) ⟨MB.blind, M_recv hK hw, MB.pre hK hI hw va_P0 ne0⟩ rfl rfl hl.1 rfl (lv_room (Nat.le_of_ble_eq_true rfl)) dX11_swap_114 ⟨show 0 + 0 ≤ 0 by omega, show 0 + 0 ≤ 0 by omega⟩) (fun r27 μ26 H locs h hw => ?_)
        exact hret H locs ls 117 _ _ _ _ _ hw h rfl (show 0 ≤ 0 by omega) (show 0 ≤ 0 by omega) dX11_swap_117
      have h := h.2 c25
      refine lv_iconst (v := (0 : Int32)) hx hb dX11_swap_109 (by decide) ?_
      refine lv_goto (tgt := 114) hx hb dX11_swap_110 (by decide) ?_
      refine M_calli hw (MA.up hw.2.2.1.1) (va_runV (own := "LeastreaderModel") (As := [.int (0 : Int32)]) (rest := []) ⟨hx, hb, hml, hown, ht⟩ (c_X11_did μ24 H.size (0 : Int32) h) (cwV 1 ht (G_V q_1364 q_1366 q_29 q_56 q_1367) rfl rfl rfl ⟨rfl, hd_95⟩ ⟨Nat.le_of_ble_eq_true rfl, Nat.le_of_ble_eq_true rfl⟩) ⟨MB.blind, M_recv hK hw, MB.pre hK hI hw va_P0 ne0⟩ rfl rfl hl.1 rfl (lv_room (Nat.le_of_ble_eq_true rfl)) dX11_swap_114 ⟨show 0 + 0 ≤ 0 by omega, show 0 + 0 ≤ 0 by omega⟩) (fun r29 μ28 H locs h hw => ?_)
      exact hret H locs ls 117 _ _ _ _ _ hw h rfl (show 0 ≤ 0 by omega) (show 0 ≤ 0 by omega) dX11_swap_117
    have h := h.2 c6
    refine lv_iconst (v := (0 : Int32)) hx hb dX11_swap_27 (by decide) ?_
    exact hret H locs ls 28 _ _ _ _ _ hw h rfl (show 0 ≤ 0 by omega) (show 0 ≤ 0 by omega) dX11_swap_28)
  refine lv_if_eq (tgt := 19) hx hb dX11_swap_5 (by decide) (fun c30 => ?_) (fun c30 => ?_)
  · have h := h.1 c30
    refine lv_iconst (v := (0 : Int32)) hx hb dX11_swap_19 (by decide) ?_
    exact h H locs ls hw (lv_sub hl [0, 1, 2] rfl)
  have h := h.2 c30
  refine lv_iload_n hx hb dX11_swap_8 rfl (lv_at hl 2 rfl) ?_
  refine P_calli (va_runS (own := "LeastreaderModel") (As := [.int a2]) (rest := [.ref (ad 0)]) ⟨hx, hb, hml, hown, ht⟩ (c_X11_isOne a2 h) (va_cwS 1 ht (G_S q_1342 q_1343 q_56 q_1344) rfl rfl rfl hd_91 ⟨Nat.le_of_ble_eq_true rfl, Nat.le_of_ble_eq_true rfl⟩) ⟨PM_blind, PM_pre⟩ rfl rfl hl.1 rfl (lv_room (Nat.le_of_ble_eq_true rfl)) dX11_swap_9 ⟨show 0 + 0 ≤ 0 by omega, show 0 + 0 ≤ 0 by omega⟩) (fun r31 h => ?_)
  refine lv_if_eq (tgt := 19) hx hb dX11_swap_12 (by decide) (fun c32 => ?_) (fun c32 => ?_)
  · have h := h.1 c32
    refine lv_iconst (v := (0 : Int32)) hx hb dX11_swap_19 (by decide) ?_
    exact h H locs ls hw (lv_sub hl [0, 1, 2] rfl)
  have h := h.2 c32
  refine lv_iconst (v := (1 : Int32)) hx hb dX11_swap_15 (by decide) ?_
  refine lv_goto (tgt := 20) hx hb dX11_swap_16 (by decide) ?_
  exact h H locs ls hw (lv_sub hl [0, 1, 2] rfl)
def wpl_X11_turn_35 (f9 : Nat → Int64) (n8 : Nat) (v18 : Int32) (v19 : Int32) (K76 : TMem → Prop) : Nat → Int32 → TMem → Prop
  | 0, _, _ => False
  | n + 1, v17, μ20 =>
    ((3 : Int32) ≤ v17 → (K76 μ20)) ∧ (¬ (3 : Int32) ≤ v17 → (wp_X11_key v19 v18 v17 (fun (r22 : Int32) => vp_in v19 (ml 1) ∧ (wp_X11_next n8 f9 (μ20 1 v19.toNatClampNeg) ((1 : Int64) <<< (v18.toInt64 &&& 63)) v17 (1 : Int32) (fun (r24 : Int64) => vp_in r22 (ml 4) ∧ (wpl_X11_turn_35 f9 n8 v18 v19 K76 n (v17 + (1 : Int32)) (tms μ20 4 r22.toNatClampNeg (r24.toInt32))))))))
def wpl_X11_turn_22 (f9 : Nat → Int64) (n8 : Nat) (v12 : Int32) (K82 : TMem → Prop) : Nat → Int32 → TMem → Prop
  | 0, _, _ => False
  | n + 1, v11, μ13 =>
    vp_in v12 (ml 1) ∧ (((μ13 1 v12.toNatClampNeg) ≤ v11 → (K82 μ13)) ∧ (¬ (μ13 1 v12.toNatClampNeg) ≤ v11 → (∃ n15x, wpl_X11_turn_35 f9 n8 v11 v12 (fun (μ27 : TMem) => wpl_X11_turn_22 f9 n8 v12 K82 n (v11 + (1 : Int32)) μ27) n15x (0 : Int32) μ13)))
def wp_X11_turn (μ : TMem) (a1 : Int32) (Q : Int32 → TMem → Prop) : Prop :=
  wp_X11_isOne a1 (fun (r1 : Int32) => wp_X11_isThrown μ r1 (1 : Int32) (fun (r3 : Int32) (μ2 : TMem) => (r3 = 0 → (wp_X11_arrowsAll μ2 a1 (fun (n8 : Nat) (f9 : Nat → Int64) => ∃ n9x, wpl_X11_turn_22 f9 n8 a1 (fun (μ29 : TMem) => vp_in a1 (ml 2) ∧ (vp_in a1 (ml 3) ∧ (vp_in a1 (ml 2) ∧ (vp_in a1 (ml 3) ∧ (wp_X11_arrowsOf (tms (tms μ29 2 a1.toNatClampNeg (μ29 3 a1.toNatClampNeg)) 3 a1.toNatClampNeg (μ29 2 a1.toNatClampNeg)) a1 (fun (r36 : Int32) => wp_X11_did (tms (tms μ29 2 a1.toNatClampNeg (μ29 3 a1.toNatClampNeg)) 3 a1.toNatClampNeg (μ29 2 a1.toNatClampNeg)) r36 (fun (r38 : Int32) (μ37 : TMem) => Q r38 μ37))))))) n9x (0 : Int32) μ2))) ∧ (¬ r3 = 0 → (Q (0 : Int32) μ2))))
set_option maxHeartbeats 4000000 in
set_option maxRecDepth 100000 in
theorem c_X11_turn {l : Launch} {D : va_G} {ad : Nat → Nat} {cI cL : ClassId}  (μ : TMem) (sz : Nat) (a1 : Int32)  {Q : Int32 → TMem → Prop} (h : wp_X11_turn μ a1 Q) : MMi l yX11_turn (.code yX11_turn cX11_turn 5 (Option.some Jvm.ClassFile.FieldType.int)) 2 1 21 [.ref (ad 0), .int a1] D ad cI cL sz μ [] Q := by
  refine M_meti (by decide +kernel) (Nat.le_of_ble_eq_true rfl) ?_
  intro p e s m below meth c Z ls hx hb hml hown ht hK hP0 hI hne hw hret hl
  have hl : lv_has ls 5 [(0, .ref (ad 0)), (1, .int a1)] := hl
  suffices hh : ∀ (H : Heap) (locs : List Loc), MW D (MR ad cI μ) [] (MA ad s.heap.size) s H locs → W p l e (RA 2 1 21) s m #[.ref (ad 0), .int a1] below meth c H locs 0 0 Z (F0 m 0 ls []) from hh _ _ hw
  intro H locs hw
  change wp_X11_isOne a1 (fun (r1 : Int32) => wp_X11_isThrown μ r1 (1 : Int32) (fun (r3 : Int32) (μ2 : TMem) => (r3 = 0 → (wp_X11_arrowsAll μ2 a1 (fun (n8 : Nat) (f9 : Nat → Int64) => ∃ n9x, wpl_X11_turn_22 f9 n8 a1 (fun (μ29 : TMem) => vp_in a1 (ml 2) ∧ (vp_in a1 (ml 3) ∧ (vp_in a1 (ml 2) ∧ (vp_in a1 (ml 3) ∧ (wp_X11_arrowsOf (tms (tms μ29 2 a1.toNatClampNeg (μ29 3 a1.toNatClampNeg)) 3 a1.toNatClampNeg (μ29 2 a1.toNatClampNeg)) a1 (fun (r36 : Int32) => wp_X11_did (tms (tms μ29 2 a1.toNatClampNeg (μ29 3 a1.toNatClampNeg)) 3 a1.toNatClampNeg (μ29 2 a1.toNatClampNeg)) r36 (fun (r38 : Int32) (μ37 : TMem) => Q r38 μ37))))))) n9x (0 : Int32) μ2))) ∧ (¬ r3 = 0 → (Q (0 : Int32) μ2)))) at h
  refine lv_aload_n hx hb dX11_turn_0 rfl (lv_at hl 0 rfl) ?_
  refine lv_iload_n hx hb dX11_turn_1 rfl (lv_at hl 1 rfl) ?_
  refine P_calli (va_runS (own := "LeastreaderModel") (As := [.int a1]) (rest := [.ref (ad 0)]) ⟨hx, hb, hml, hown, ht⟩ (c_X11_isOne a1 h) (va_cwS 1 ht (G_S q_1342 q_1343 q_56 q_1344) rfl rfl rfl hd_91 ⟨Nat.le_of_ble_eq_true rfl, Nat.le_of_ble_eq_true rfl⟩) ⟨PM_blind, PM_pre⟩ rfl rfl hl.1 rfl (lv_room (Nat.le_of_ble_eq_true rfl)) dX11_turn_2 ⟨show 0 + 0 ≤ 1 by omega, show 0 + 0 ≤ 21 by omega⟩) (fun r1 h => ?_)
  refine lv_iconst (v := (1 : Int32)) hx hb dX11_turn_5 (by decide) ?_
  refine M_calli hw (MA.up hw.2.2.1.1) (va_runV (own := "LeastreaderModel") (As := [.int r1, .int (1 : Int32)]) (rest := []) ⟨hx, hb, hml, hown, ht⟩ (c_X11_isThrown μ H.size r1 (1 : Int32) h) (cwV 2 ht (G_V q_1348 q_1350 q_26 q_56 q_1351) rfl rfl rfl ⟨rfl, hd_92⟩ ⟨Nat.le_of_ble_eq_true rfl, Nat.le_of_ble_eq_true rfl⟩) ⟨MB.blind, M_recv hK hw, MB.pre hK hI hw va_P0 ne0⟩ rfl rfl hl.1 rfl (lv_room (Nat.le_of_ble_eq_true rfl)) dX11_turn_6 ⟨show 0 + 0 ≤ 1 by omega, show 0 + 0 ≤ 21 by omega⟩) (fun r3 μ2 H locs h hw => ?_)
  refine lv_if_eq (tgt := 14) hx hb dX11_turn_9 (by decide) (fun c4 => ?_) (fun c4 => ?_)
  · have h := h.1 c4
    refine lv_aload_n hx hb dX11_turn_14 rfl (lv_at hl 0 rfl) ?_
    refine lv_iload_n hx hb dX11_turn_15 rfl (lv_at hl 1 rfl) ?_
    refine M_callL hw (MA.up hw.2.2.1.1) (va_runV (own := "LeastreaderModel") (As := [.int a1]) (rest := []) ⟨hx, hb, hml, hown, ht⟩ (c_X11_arrowsAll μ2 H.size a1 h) (cwV 1 ht (G_V q_1413 q_1415 q_33 q_56 q_1416) rfl rfl rfl ⟨rfl, hd_82⟩ ⟨Nat.le_of_ble_eq_true rfl, Nat.le_of_ble_eq_true rfl⟩) ⟨MB.blind, M_recv hK hw, MB.pre hK hI hw va_P0 ne0⟩ rfl rfl hl.1 rfl (lv_room (Nat.le_of_ble_eq_true rfl)) dX11_turn_16 ⟨show 0 + 1 ≤ 1 by omega, show 0 + 21 ≤ 21 by omega⟩) (fun q7 n8 f9 μ5 H locs hq7 h hw => ?_)
    obtain ⟨e6, h⟩ := h
    rw [e6] at hw
    have hw : MW D (MR ad cI μ2) [eL cL q7 n8 f9] (MA ad s.heap.size) s H locs := hw
    refine lv_astore_n (lv' := [(2, .ref q7), (0, .ref (ad 0)), (1, .int a1)]) hx hb dX11_turn_19 rfl hl (by decide) rfl (fun ls hl => ?_)
    refine lv_iconst (v := (0 : Int32)) hx hb dX11_turn_20 (by decide) ?_
    refine lv_istore_n (lv' := [(3, .int (0 : Int32)), (2, .ref q7), (0, .ref (ad 0)), (1, .int a1)]) hx hb dX11_turn_21 rfl hl (by decide) rfl (fun ls hl => ?_)
    obtain ⟨n28, h⟩ := h
    have L9 : ∀ (v12 : Int32) (K82 : TMem → Prop), (∀ (μ13 : TMem), ∀ (H : Heap) (locs : List Loc) (ls : Array Slot), MW D (MR ad cI μ13) [] (MA ad s.heap.size) s H locs → lv_has ls 5 [(0, .ref (ad 0)), (1, .int v12)] → K82 μ13 → W p l e (RA 2 1 21) s m #[.ref (ad 0), .int a1] below meth c H locs 1 21 Z (F0 m 82 ls [])) → ∀ (n : Nat), ∀ (v11 : Int32) (μ13 : TMem), ∀ (H : Heap) (locs : List Loc) (ls : Array Slot), MW D (MR ad cI μ13) [eL cL q7 n8 f9] (MA ad s.heap.size) s H locs → lv_has ls 5 [(3, .int v11), (2, .ref q7), (0, .ref (ad 0)), (1, .int v12)] → wpl_X11_turn_22 f9 n8 v12 K82 n v11 μ13 → W p l e (RA 2 1 21) s m #[.ref (ad 0), .int a1] below meth c H locs 1 21 Z (F0 m 22 ls []) := by
      intro v12 K82 hK82
      intro n
      induction n with
      | zero => intro v11 μ13 H locs ls hw hl h; exact False.elim h
      | succ n ih9 =>
        intro v11 μ13 H locs ls hw hl h
        change vp_in v12 (ml 1) ∧ (((μ13 1 v12.toNatClampNeg) ≤ v11 → (K82 μ13)) ∧ (¬ (μ13 1 v12.toNatClampNeg) ≤ v11 → (∃ n15x, wpl_X11_turn_35 f9 n8 v11 v12 (fun (μ27 : TMem) => wpl_X11_turn_22 f9 n8 v12 K82 n (v11 + (1 : Int32)) μ27) n15x (0 : Int32) μ13))) at h
        refine lv_iload_n hx hb dX11_turn_22 rfl (lv_at hl 0 rfl) ?_
        refine lv_aload_n hx hb dX11_turn_23 rfl (lv_at hl 2 rfl) ?_
        refine m_get (i := 0) hx hb ht hown hK hw (by decide) (ht _ q_1313) rfl rfl dX11_turn_24 ?_
        refine lv_iload_n hx hb dX11_turn_27 rfl (lv_at hl 3 rfl) ?_
        obtain ⟨z14, h⟩ := h
        refine m_iald hx hb hK hw (by decide) z14 dX11_turn_28 ?_
        refine lv_icmp_ge (tgt := 82) hx hb dX11_turn_29 (by decide) (fun c15 => ?_) (fun c15 => ?_)
        · have h := h.1 c15
          exact hK82 μ13 H locs ls (hw.sub [] (by decide) rfl) (lv_sub hl [2, 3] rfl) h
        have h := h.2 c15
        refine lv_iconst (v := (0 : Int32)) hx hb dX11_turn_32 (by decide) ?_
        refine lv_istore (lv' := [(4, .int (0 : Int32)), (3, .int v11), (2, .ref q7), (0, .ref (ad 0)), (1, .int v12)]) hx hb dX11_turn_33 hl (by decide) rfl (fun ls hl => ?_)
        obtain ⟨n26, h⟩ := h
        have L15 : ∀ (v18 : Int32) (v19 : Int32) (K76 : TMem → Prop), (∀ (μ20 : TMem), ∀ (H : Heap) (locs : List Loc) (ls : Array Slot), MW D (MR ad cI μ20) [eL cL q7 n8 f9] (MA ad s.heap.size) s H locs → lv_has ls 5 [(3, .int v18), (2, .ref q7), (0, .ref (ad 0)), (1, .int v19)] → K76 μ20 → W p l e (RA 2 1 21) s m #[.ref (ad 0), .int a1] below meth c H locs 1 21 Z (F0 m 76 ls [])) → ∀ (n : Nat), ∀ (v17 : Int32) (μ20 : TMem), ∀ (H : Heap) (locs : List Loc) (ls : Array Slot), MW D (MR ad cI μ20) [eL cL q7 n8 f9] (MA ad s.heap.size) s H locs → lv_has ls 5 [(4, .int v17), (3, .int v18), (2, .ref q7), (0, .ref (ad 0)), (1, .int v19)] → wpl_X11_turn_35 f9 n8 v18 v19 K76 n v17 μ20 → W p l e (RA 2 1 21) s m #[.ref (ad 0), .int a1] below meth c H locs 1 21 Z (F0 m 35 ls []) := by
          intro v18 v19 K76 hK76
          intro n
          induction n with
          | zero => intro v17 μ20 H locs ls hw hl h; exact False.elim h
          | succ n ih15 =>
            intro v17 μ20 H locs ls hw hl h
            change ((3 : Int32) ≤ v17 → (K76 μ20)) ∧ (¬ (3 : Int32) ≤ v17 → (wp_X11_key v19 v18 v17 (fun (r22 : Int32) => vp_in v19 (ml 1) ∧ (wp_X11_next n8 f9 (μ20 1 v19.toNatClampNeg) ((1 : Int64) <<< (v18.toInt64 &&& 63)) v17 (1 : Int32) (fun (r24 : Int64) => vp_in r22 (ml 4) ∧ (wpl_X11_turn_35 f9 n8 v18 v19 K76 n (v17 + (1 : Int32)) (tms μ20 4 r22.toNatClampNeg (r24.toInt32)))))))) at h
            refine lv_iload hx hb dX11_turn_35 (lv_at hl 0 rfl) ?_
            refine lv_iconst (v := (3 : Int32)) hx hb dX11_turn_37 (by decide) ?_
            refine lv_icmp_ge (tgt := 76) hx hb dX11_turn_38 (by decide) (fun c21 => ?_) (fun c21 => ?_)
            · have h := h.1 c21
              exact hK76 μ20 H locs ls hw (lv_sub hl [1, 2, 3, 4] rfl) h
            have h := h.2 c21
            refine lv_aload_n hx hb dX11_turn_41 rfl (lv_at hl 3 rfl) ?_
            refine m_get (i := 3) hx hb ht hown hK hw (by decide) (ht _ q_1316) rfl rfl dX11_turn_42 ?_
            refine lv_iload_n hx hb dX11_turn_45 rfl (lv_at hl 4 rfl) ?_
            refine lv_iload_n hx hb dX11_turn_46 rfl (lv_at hl 1 rfl) ?_
            refine lv_iload hx hb dX11_turn_47 (lv_at hl 0 rfl) ?_
            refine P_calli (va_runS (own := "LeastreaderModel") (As := [.int v19, .int v18, .int v17]) (rest := [.ref (ad 4)]) ⟨hx, hb, hml, hown, ht⟩ (c_X11_key v19 v18 v17 h) (va_cwS 3 ht (G_S q_1356 q_1357 q_56 q_1358) rfl rfl rfl hd_79 ⟨Nat.le_of_ble_eq_true rfl, Nat.le_of_ble_eq_true rfl⟩) ⟨PM_blind, PM_pre⟩ rfl rfl hl.1 rfl (lv_room (Nat.le_of_ble_eq_true rfl)) dX11_turn_49 ⟨show 1 + 0 ≤ 1 by omega, show 21 + 0 ≤ 21 by omega⟩) (fun r22 h => ?_)
            refine lv_aload_n hx hb dX11_turn_52 rfl (lv_at hl 2 rfl) ?_
            refine lv_aload_n hx hb dX11_turn_53 rfl (lv_at hl 3 rfl) ?_
            refine m_get (i := 0) hx hb ht hown hK hw (by decide) (ht _ q_1313) rfl rfl dX11_turn_54 ?_
            refine lv_iload_n hx hb dX11_turn_57 rfl (lv_at hl 4 rfl) ?_
            obtain ⟨z23, h⟩ := h
            refine m_iald hx hb hK hw (by decide) z23 dX11_turn_58 ?_
            refine lv_lconst (v := (1 : Int64)) hx hb dX11_turn_59 (by decide) ?_
            refine lv_iload_n hx hb dX11_turn_60 rfl (lv_at hl 1 rfl) ?_
            refine lv_lshl hx hb dX11_turn_61 rfl ?_
            refine lv_iload hx hb dX11_turn_62 (lv_at hl 0 rfl) ?_
            refine lv_iconst (v := (1 : Int32)) hx hb dX11_turn_64 (by decide) ?_
            refine S_calll hw (va_runS (own := "LeastreaderModel") (As := [.ref q7, .int (μ20 1 v19.toNatClampNeg), .long ((1 : Int64) <<< (v18.toInt64 &&& 63)), .int v17, .int (1 : Int32)]) (rest := [.int r22, .ref (ad 4)]) ⟨hx, hb, hml, hown, ht⟩ (c_X11_next q7 H.size n8 f9 (μ20 1 v19.toNatClampNeg) ((1 : Int64) <<< (v18.toInt64 &&& 63)) v17 (1 : Int32) h) (va_cwS 5 ht (G_S q_1417 q_1418 q_56 q_1419) rfl rfl rfl hd_80 ⟨Nat.le_of_ble_eq_true rfl, Nat.le_of_ble_eq_true rfl⟩) ⟨SB.blind, SB.pre hK (va_Pc2 (hw.n (j := 0) rfl) va_P0)⟩ rfl rfl hl.1 rfl (lv_room (Nat.le_of_ble_eq_true rfl)) dX11_turn_65 ⟨show 1 + 0 ≤ 1 by omega, show 21 + 0 ≤ 21 by omega⟩) (fun r24 H locs h hw => ?_)
            refine lv_l2i hx hb dX11_turn_68 rfl ?_
            obtain ⟨z25, h⟩ := h
            refine m_iast hx hb hK hw (by decide) z25 dX11_turn_69 (fun H locs hw => ?_)
            refine lv_iinc (v := (v17 + (1 : Int32))) (lv' := [(4, .int (v17 + (1 : Int32))), (3, .int v18), (2, .ref q7), (0, .ref (ad 0)), (1, .int v19)]) hx hb dX11_turn_70 hl (k := 0) rfl rfl (by decide) rfl (fun ls hl => ?_)
            refine lv_goto (tgt := 35) hx hb dX11_turn_73 (by decide) ?_
            exact ih15 (v17 + (1 : Int32)) (tms μ20 4 r22.toNatClampNeg (r24.toInt32)) H locs ls hw (lv_sub hl [0, 1, 2, 3, 4] rfl) h
        refine L15 v11 v12 _ ?_ n26 (0 : Int32) μ13 H locs ls hw (lv_sub hl [0, 1, 2, 3, 4] rfl) h
        intro μ27 H locs ls hw hl h
        refine lv_iinc (v := (v11 + (1 : Int32))) (lv' := [(3, .int (v11 + (1 : Int32))), (2, .ref q7), (0, .ref (ad 0)), (1, .int v12)]) hx hb dX11_turn_76 hl (k := 0) rfl rfl (by decide) rfl (fun ls hl => ?_)
        refine lv_goto (tgt := 22) hx hb dX11_turn_79 (by decide) ?_
        exact ih9 (v11 + (1 : Int32)) μ27 H locs ls hw (lv_sub hl [0, 1, 2, 3] rfl) h
    refine L9 a1 _ ?_ n28 (0 : Int32) μ2 H locs ls hw (lv_sub hl [0, 1, 2, 3] rfl) h
    intro μ29 H locs ls hw hl h
    refine lv_aload_n hx hb dX11_turn_82 rfl (lv_at hl 0 rfl) ?_
    refine m_get (i := 1) hx hb ht hown hK hw (by decide) (ht _ q_1314) rfl rfl dX11_turn_83 ?_
    refine lv_iload_n hx hb dX11_turn_86 rfl (lv_at hl 1 rfl) ?_
    obtain ⟨z30, h⟩ := h
    refine m_iald hx hb hK hw (by decide) z30 dX11_turn_87 ?_
    refine lv_istore_n (lv' := [(3, .int (μ29 2 a1.toNatClampNeg)), (0, .ref (ad 0)), (1, .int a1)]) hx hb dX11_turn_88 rfl hl (by decide) rfl (fun ls hl => ?_)
    refine lv_aload_n hx hb dX11_turn_89 rfl (lv_at hl 1 rfl) ?_
    refine m_get (i := 1) hx hb ht hown hK hw (by decide) (ht _ q_1314) rfl rfl dX11_turn_90 ?_
    refine lv_iload_n hx hb dX11_turn_93 rfl (lv_at hl 2 rfl) ?_
    refine lv_aload_n hx hb dX11_turn_94 rfl (lv_at hl 1 rfl) ?_
    refine m_get (i := 2) hx hb ht hown hK hw (by decide) (ht _ q_1315) rfl rfl dX11_turn_95 ?_
    refine lv_iload_n hx hb dX11_turn_98 rfl (lv_at hl 2 rfl) ?_
    obtain ⟨z31, h⟩ := h
    refine m_iald hx hb hK hw (by decide) z31 dX11_turn_99 ?_
    obtain ⟨z32, h⟩ := h
    refine m_iast hx hb hK hw (by decide) z32 dX11_turn_100 (fun H locs hw => ?_)
    refine lv_aload_n hx hb dX11_turn_101 rfl (lv_at hl 1 rfl) ?_
    refine m_get (i := 2) hx hb ht hown hK hw (by decide) (ht _ q_1315) rfl rfl dX11_turn_102 ?_
    refine lv_iload_n hx hb dX11_turn_105 rfl (lv_at hl 2 rfl) ?_
    refine lv_iload_n hx hb dX11_turn_106 rfl (lv_at hl 0 rfl) ?_
    obtain ⟨z33, h⟩ := h
    refine m_iast hx hb hK hw (by decide) z33 dX11_turn_107 (fun H locs hw => ?_)
    refine lv_aload_n hx hb dX11_turn_108 rfl (lv_at hl 1 rfl) ?_
    refine lv_aload_n hx hb dX11_turn_109 rfl (lv_at hl 1 rfl) ?_
    refine lv_iload_n hx hb dX11_turn_110 rfl (lv_at hl 2 rfl) ?_
    refine M_calli hw (MA.up hw.2.2.1.1) (va_runV (own := "LeastreaderModel") (As := [.int a1]) (rest := [.ref (ad 0)]) ⟨hx, hb, hml, hown, ht⟩ (c_X11_arrowsOf (tms (tms μ29 2 a1.toNatClampNeg (μ29 3 a1.toNatClampNeg)) 3 a1.toNatClampNeg (μ29 2 a1.toNatClampNeg)) H.size a1 h) (cwV 1 ht (G_V q_1352 q_1354 q_27 q_56 q_1355) rfl rfl rfl ⟨rfl, hd_93⟩ ⟨Nat.le_of_ble_eq_true rfl, Nat.le_of_ble_eq_true rfl⟩) ⟨MB.blind, M_recv hK hw, MB.pre hK hI hw va_P0 ne0⟩ rfl rfl hl.1 rfl (lv_room (Nat.le_of_ble_eq_true rfl)) dX11_turn_111 ⟨show 1 + 0 ≤ 1 by omega, show 21 + 0 ≤ 21 by omega⟩) (fun r36 μ34 H locs h hw => ?_)
    obtain ⟨e35, h⟩ := h
    rw [e35] at hw
    refine M_calli hw (MA.up hw.2.2.1.1) (va_runV (own := "LeastreaderModel") (As := [.int r36]) (rest := []) ⟨hx, hb, hml, hown, ht⟩ (c_X11_did (tms (tms μ29 2 a1.toNatClampNeg (μ29 3 a1.toNatClampNeg)) 3 a1.toNatClampNeg (μ29 2 a1.toNatClampNeg)) H.size r36 h) (cwV 1 ht (G_V q_1364 q_1366 q_29 q_56 q_1367) rfl rfl rfl ⟨rfl, hd_95⟩ ⟨Nat.le_of_ble_eq_true rfl, Nat.le_of_ble_eq_true rfl⟩) ⟨MB.blind, M_recv hK hw, MB.pre hK hI hw va_P0 ne0⟩ rfl rfl hl.1 rfl (lv_room (Nat.le_of_ble_eq_true rfl)) dX11_turn_114 ⟨show 1 + 0 ≤ 1 by omega, show 21 + 0 ≤ 21 by omega⟩) (fun r38 μ37 H locs h hw => ?_)
    exact hret H locs ls 117 _ _ _ _ _ hw h rfl (show 1 ≤ 1 by omega) (show 21 ≤ 21 by omega) dX11_turn_117
  have h := h.2 c4
  refine lv_iconst (v := (0 : Int32)) hx hb dX11_turn_12 (by decide) ?_
  exact hret H locs ls 13 _ _ _ _ _ hw h rfl (show 0 ≤ 1 by omega) (show 0 ≤ 21 by omega) dX11_turn_13
end
/-! part 70.r9 -/
section
def wp_X11_other (μ : TMem) (a1 : Int32) (Q : Int32 → TMem → Prop) : Prop :=
  wp_X11_isOne a1 (fun (r1 : Int32) => wp_X11_isThrown μ r1 (1 : Int32) (fun (r3 : Int32) (μ2 : TMem) => (r3 = 0 → (wp_X11_isPlain μ2 a1 (fun (r7 : Int32) => (¬ r7 = 0 → (vp_in a1 (ml 3) ∧ (vp_in a1 (ml 1) ∧ (vp_in a1 (ml 3) ∧ (vp_in a1 (ml 3) ∧ (wp_J6_bitCount_0f7a4 ((tms μ2 3 a1.toNatClampNeg ((μ2 3 a1.toNatClampNeg) ^^^ (((1 : Int32) <<< ((μ2 1 a1.toNatClampNeg) &&& 31)) - (1 : Int32)))) 3 a1.toNatClampNeg) (fun (r13 : Int32) => wp_X11_did (tms μ2 3 a1.toNatClampNeg ((μ2 3 a1.toNatClampNeg) ^^^ (((1 : Int32) <<< ((μ2 1 a1.toNatClampNeg) &&& 31)) - (1 : Int32)))) r13 (fun (r15 : Int32) (μ14 : TMem) => Q r15 μ14)))))))) ∧ (r7 = 0 → (wp_X11_refuse μ2 (fun (r17 : Int32) (μ16 : TMem) => Q r17 μ16)))))) ∧ (¬ r3 = 0 → (Q (0 : Int32) μ2))))
set_option maxHeartbeats 4000000 in
set_option maxRecDepth 100000 in
theorem c_X11_other {l : Launch} {D : va_G} {ad : Nat → Nat} {cI cL : ClassId}  (μ : TMem) (sz : Nat) (a1 : Int32)  {Q : Int32 → TMem → Prop} (h : wp_X11_other μ a1 Q) : MMi l yX11_other (.code yX11_other cX11_other 2 (Option.some Jvm.ClassFile.FieldType.int)) 2 0 0 [.ref (ad 0), .int a1] D ad cI cL sz μ [] Q := by
  refine M_meti (by decide +kernel) (Nat.le_of_ble_eq_true rfl) ?_
  intro p e s m below meth c Z ls hx hb hml hown ht hK hP0 hI hne hw hret hl
  have hl : lv_has ls 2 [(0, .ref (ad 0)), (1, .int a1)] := hl
  suffices hh : ∀ (H : Heap) (locs : List Loc), MW D (MR ad cI μ) [] (MA ad s.heap.size) s H locs → W p l e (RA 2 0 0) s m #[.ref (ad 0), .int a1] below meth c H locs 0 0 Z (F0 m 0 ls []) from hh _ _ hw
  intro H locs hw
  change wp_X11_isOne a1 (fun (r1 : Int32) => wp_X11_isThrown μ r1 (1 : Int32) (fun (r3 : Int32) (μ2 : TMem) => (r3 = 0 → (wp_X11_isPlain μ2 a1 (fun (r7 : Int32) => (¬ r7 = 0 → (vp_in a1 (ml 3) ∧ (vp_in a1 (ml 1) ∧ (vp_in a1 (ml 3) ∧ (vp_in a1 (ml 3) ∧ (wp_J6_bitCount_0f7a4 ((tms μ2 3 a1.toNatClampNeg ((μ2 3 a1.toNatClampNeg) ^^^ (((1 : Int32) <<< ((μ2 1 a1.toNatClampNeg) &&& 31)) - (1 : Int32)))) 3 a1.toNatClampNeg) (fun (r13 : Int32) => wp_X11_did (tms μ2 3 a1.toNatClampNeg ((μ2 3 a1.toNatClampNeg) ^^^ (((1 : Int32) <<< ((μ2 1 a1.toNatClampNeg) &&& 31)) - (1 : Int32)))) r13 (fun (r15 : Int32) (μ14 : TMem) => Q r15 μ14)))))))) ∧ (r7 = 0 → (wp_X11_refuse μ2 (fun (r17 : Int32) (μ16 : TMem) => Q r17 μ16)))))) ∧ (¬ r3 = 0 → (Q (0 : Int32) μ2)))) at h
  refine lv_aload_n hx hb dX11_other_0 rfl (lv_at hl 0 rfl) ?_
  refine lv_iload_n hx hb dX11_other_1 rfl (lv_at hl 1 rfl) ?_
  refine P_calli (va_runS (own := "LeastreaderModel") (As := [.int a1]) (rest := [.ref (ad 0)]) ⟨hx, hb, hml, hown, ht⟩ (c_X11_isOne a1 h) (va_cwS 1 ht (G_S q_1342 q_1343 q_56 q_1344) rfl rfl rfl hd_91 ⟨Nat.le_of_ble_eq_true rfl, Nat.le_of_ble_eq_true rfl⟩) ⟨PM_blind, PM_pre⟩ rfl rfl hl.1 rfl (lv_room (Nat.le_of_ble_eq_true rfl)) dX11_other_2 ⟨show 0 + 0 ≤ 0 by omega, show 0 + 0 ≤ 0 by omega⟩) (fun r1 h => ?_)
  refine lv_iconst (v := (1 : Int32)) hx hb dX11_other_5 (by decide) ?_
  refine M_calli hw (MA.up hw.2.2.1.1) (va_runV (own := "LeastreaderModel") (As := [.int r1, .int (1 : Int32)]) (rest := []) ⟨hx, hb, hml, hown, ht⟩ (c_X11_isThrown μ H.size r1 (1 : Int32) h) (cwV 2 ht (G_V q_1348 q_1350 q_26 q_56 q_1351) rfl rfl rfl ⟨rfl, hd_92⟩ ⟨Nat.le_of_ble_eq_true rfl, Nat.le_of_ble_eq_true rfl⟩) ⟨MB.blind, M_recv hK hw, MB.pre hK hI hw va_P0 ne0⟩ rfl rfl hl.1 rfl (lv_room (Nat.le_of_ble_eq_true rfl)) dX11_other_6 ⟨show 0 + 0 ≤ 0 by omega, show 0 + 0 ≤ 0 by omega⟩) (fun r3 μ2 H locs h hw => ?_)
  refine lv_if_eq (tgt := 14) hx hb dX11_other_9 (by decide) (fun c4 => ?_) (fun c4 => ?_)
  · have h := h.1 c4
    refine lv_aload_n hx hb dX11_other_14 rfl (lv_at hl 0 rfl) ?_
    refine lv_iload_n hx hb dX11_other_15 rfl (lv_at hl 1 rfl) ?_
    refine M_calli hw (MA.up hw.2.2.1.1) (va_runV (own := "LeastreaderModel") (As := [.int a1]) (rest := []) ⟨hx, hb, hml, hown, ht⟩ (c_X11_isPlain μ2 H.size a1 h) (cwV 1 ht (G_V q_1425 q_1427 q_34 q_56 q_1428) rfl rfl rfl ⟨rfl, hd_100⟩ ⟨Nat.le_of_ble_eq_true rfl, Nat.le_of_ble_eq_true rfl⟩) ⟨MB.blind, M_recv hK hw, MB.pre hK hI hw va_P0 ne0⟩ rfl rfl hl.1 rfl (lv_room (Nat.le_of_ble_eq_true rfl)) dX11_other_16 ⟨show 0 + 0 ≤ 0 by omega, show 0 + 0 ≤ 0 by omega⟩) (fun r7 μ5 H locs h hw => ?_)
    obtain ⟨e6, h⟩ := h
    rw [e6] at hw
    refine lv_if_ne (tgt := 27) hx hb dX11_other_19 (by decide) (fun c8 => ?_) (fun c8 => ?_)
    · have h := h.1 c8
      refine lv_aload_n hx hb dX11_other_27 rfl (lv_at hl 0 rfl) ?_
      refine m_get (i := 2) hx hb ht hown hK hw (by decide) (ht _ q_1315) rfl rfl dX11_other_28 ?_
      refine lv_iload_n hx hb dX11_other_31 rfl (lv_at hl 1 rfl) ?_
      refine lv_dup2_11 hx hb dX11_other_32 rfl rfl ?_
      obtain ⟨z9, h⟩ := h
      refine m_iald hx hb hK hw (by decide) z9 dX11_other_33 ?_
      refine lv_iconst (v := (1 : Int32)) hx hb dX11_other_34 (by decide) ?_
      refine lv_aload_n hx hb dX11_other_35 rfl (lv_at hl 0 rfl) ?_
      refine m_get (i := 0) hx hb ht hown hK hw (by decide) (ht _ q_1313) rfl rfl dX11_other_36 ?_
      refine lv_iload_n hx hb dX11_other_39 rfl (lv_at hl 1 rfl) ?_
      obtain ⟨z10, h⟩ := h
      refine m_iald hx hb hK hw (by decide) z10 dX11_other_40 ?_
      refine lv_ishl hx hb dX11_other_41 ?_
      refine lv_iconst (v := (1 : Int32)) hx hb dX11_other_42 (by decide) ?_
      refine lv_isub hx hb dX11_other_43 ?_
      refine lv_ixor hx hb dX11_other_44 ?_
      obtain ⟨z11, h⟩ := h
      refine m_iast hx hb hK hw (by decide) z11 dX11_other_45 (fun H locs hw => ?_)
      refine lv_aload_n hx hb dX11_other_46 rfl (lv_at hl 0 rfl) ?_
      refine lv_aload_n hx hb dX11_other_47 rfl (lv_at hl 0 rfl) ?_
      refine m_get (i := 2) hx hb ht hown hK hw (by decide) (ht _ q_1315) rfl rfl dX11_other_48 ?_
      refine lv_iload_n hx hb dX11_other_51 rfl (lv_at hl 1 rfl) ?_
      obtain ⟨z12, h⟩ := h
      refine m_iald hx hb hK hw (by decide) z12 dX11_other_52 ?_
      refine P_calli (va_runS (own := "LeastreaderModel") (As := [.int ((tms μ2 3 a1.toNatClampNeg ((μ2 3 a1.toNatClampNeg) ^^^ (((1 : Int32) <<< ((μ2 1 a1.toNatClampNeg) &&& 31)) - (1 : Int32)))) 3 a1.toNatClampNeg)]) (rest := [.ref (ad 0)]) ⟨hx, hb, hml, hown, ht⟩ (c_J6_bitCount_0f7a4 ((tms μ2 3 a1.toNatClampNeg ((μ2 3 a1.toNatClampNeg) ^^^ (((1 : Int32) <<< ((μ2 1 a1.toNatClampNeg) &&& 31)) - (1 : Int32)))) 3 a1.toNatClampNeg) h) (va_cwS 1 ht (G_S q_1359 q_564 q_63 q_565) rfl rfl rfl hd_33 ⟨Nat.le_of_ble_eq_true rfl, Nat.le_of_ble_eq_true rfl⟩) ⟨PM_blind, PM_pre⟩ rfl rfl hl.1 rfl (lv_room (Nat.le_of_ble_eq_true rfl)) dX11_other_53 ⟨show 0 + 0 ≤ 0 by omega, show 0 + 0 ≤ 0 by omega⟩) (fun r13 h => ?_)
      refine M_calli hw (MA.up hw.2.2.1.1) (va_runV (own := "LeastreaderModel") (As := [.int r13]) (rest := []) ⟨hx, hb, hml, hown, ht⟩ (c_X11_did (tms μ2 3 a1.toNatClampNeg ((μ2 3 a1.toNatClampNeg) ^^^ (((1 : Int32) <<< ((μ2 1 a1.toNatClampNeg) &&& 31)) - (1 : Int32)))) H.size r13 h) (cwV 1 ht (G_V q_1364 q_1366 q_29 q_56 q_1367) rfl rfl rfl ⟨rfl, hd_95⟩ ⟨Nat.le_of_ble_eq_true rfl, Nat.le_of_ble_eq_true rfl⟩) ⟨MB.blind, M_recv hK hw, MB.pre hK hI hw va_P0 ne0⟩ rfl rfl hl.1 rfl (lv_room (Nat.le_of_ble_eq_true rfl)) dX11_other_56 ⟨show 0 + 0 ≤ 0 by omega, show 0 + 0 ≤ 0 by omega⟩) (fun r15 μ14 H locs h hw => ?_)
      exact hret H locs ls 59 _ _ _ _ _ hw h rfl (show 0 ≤ 0 by omega) (show 0 ≤ 0 by omega) dX11_other_59
    have h := h.2 c8
    refine lv_aload_n hx hb dX11_other_22 rfl (lv_at hl 0 rfl) ?_
    refine M_calli hw (MA.up hw.2.2.1.1) (va_runV (own := "LeastreaderModel") (As := []) (rest := []) ⟨hx, hb, hml, hown, ht⟩ (c_X11_refuse μ2 H.size h) (cwV 0 ht (G_V q_1429 q_1431 q_35 q_56 q_1432) rfl rfl rfl ⟨rfl, hd_101⟩ ⟨Nat.le_of_ble_eq_true rfl, Nat.le_of_ble_eq_true rfl⟩) ⟨MB.blind, M_recv hK hw, MB.pre hK hI hw va_P0 ne0⟩ rfl rfl hl.1 rfl (lv_room (Nat.le_of_ble_eq_true rfl)) dX11_other_23 ⟨show 0 + 0 ≤ 0 by omega, show 0 + 0 ≤ 0 by omega⟩) (fun r17 μ16 H locs h hw => ?_)
    exact hret H locs ls 26 _ _ _ _ _ hw h rfl (show 0 ≤ 0 by omega) (show 0 ≤ 0 by omega) dX11_other_26
  have h := h.2 c4
  refine lv_iconst (v := (0 : Int32)) hx hb dX11_other_12 (by decide) ?_
  exact hret H locs ls 13 _ _ _ _ _ hw h rfl (show 0 ≤ 0 by omega) (show 0 ≤ 0 by omega) dX11_other_13
def wp_X11_grow (μ : TMem) (a1 : Int32) (Q : Int32 → TMem → Prop) : Prop :=
  wp_X11_isOne a1 (fun (r1 : Int32) => wp_X11_isThrown μ r1 (1 : Int32) (fun (r3 : Int32) (μ2 : TMem) => (r3 = 0 → (vp_in a1 (ml 1) ∧ ((¬ (μ2 1 a1.toNatClampNeg) = (7 : Int32) → (vp_in a1 (ml 1) ∧ (vp_in a1 (ml 1) ∧ (vp_in a1 (ml 1) ∧ (wp_X11_did (tms μ2 1 a1.toNatClampNeg ((μ2 1 a1.toNatClampNeg) + (1 : Int32))) (((tms μ2 1 a1.toNatClampNeg ((μ2 1 a1.toNatClampNeg) + (1 : Int32))) 1 a1.toNatClampNeg) - (1 : Int32)) (fun (r11 : Int32) (μ10 : TMem) => Q r11 μ10)))))) ∧ ((μ2 1 a1.toNatClampNeg) = (7 : Int32) → (wp_X11_refuse μ2 (fun (r13 : Int32) (μ12 : TMem) => Q r13 μ12)))))) ∧ (¬ r3 = 0 → (Q (0 : Int32) μ2))))
set_option maxHeartbeats 4000000 in
set_option maxRecDepth 100000 in
theorem c_X11_grow {l : Launch} {D : va_G} {ad : Nat → Nat} {cI cL : ClassId}  (μ : TMem) (sz : Nat) (a1 : Int32)  {Q : Int32 → TMem → Prop} (h : wp_X11_grow μ a1 Q) : MMi l yX11_grow (.code yX11_grow cX11_grow 2 (Option.some Jvm.ClassFile.FieldType.int)) 2 0 0 [.ref (ad 0), .int a1] D ad cI cL sz μ [] Q := by
  refine M_meti (by decide +kernel) (Nat.le_of_ble_eq_true rfl) ?_
  intro p e s m below meth c Z ls hx hb hml hown ht hK hP0 hI hne hw hret hl
  have hl : lv_has ls 2 [(0, .ref (ad 0)), (1, .int a1)] := hl
  suffices hh : ∀ (H : Heap) (locs : List Loc), MW D (MR ad cI μ) [] (MA ad s.heap.size) s H locs → W p l e (RA 2 0 0) s m #[.ref (ad 0), .int a1] below meth c H locs 0 0 Z (F0 m 0 ls []) from hh _ _ hw
  intro H locs hw
  change wp_X11_isOne a1 (fun (r1 : Int32) => wp_X11_isThrown μ r1 (1 : Int32) (fun (r3 : Int32) (μ2 : TMem) => (r3 = 0 → (vp_in a1 (ml 1) ∧ ((¬ (μ2 1 a1.toNatClampNeg) = (7 : Int32) → (vp_in a1 (ml 1) ∧ (vp_in a1 (ml 1) ∧ (vp_in a1 (ml 1) ∧ (wp_X11_did (tms μ2 1 a1.toNatClampNeg ((μ2 1 a1.toNatClampNeg) + (1 : Int32))) (((tms μ2 1 a1.toNatClampNeg ((μ2 1 a1.toNatClampNeg) + (1 : Int32))) 1 a1.toNatClampNeg) - (1 : Int32)) (fun (r11 : Int32) (μ10 : TMem) => Q r11 μ10)))))) ∧ ((μ2 1 a1.toNatClampNeg) = (7 : Int32) → (wp_X11_refuse μ2 (fun (r13 : Int32) (μ12 : TMem) => Q r13 μ12)))))) ∧ (¬ r3 = 0 → (Q (0 : Int32) μ2)))) at h
  refine lv_aload_n hx hb dX11_grow_0 rfl (lv_at hl 0 rfl) ?_
  refine lv_iload_n hx hb dX11_grow_1 rfl (lv_at hl 1 rfl) ?_
  refine P_calli (va_runS (own := "LeastreaderModel") (As := [.int a1]) (rest := [.ref (ad 0)]) ⟨hx, hb, hml, hown, ht⟩ (c_X11_isOne a1 h) (va_cwS 1 ht (G_S q_1342 q_1343 q_56 q_1344) rfl rfl rfl hd_91 ⟨Nat.le_of_ble_eq_true rfl, Nat.le_of_ble_eq_true rfl⟩) ⟨PM_blind, PM_pre⟩ rfl rfl hl.1 rfl (lv_room (Nat.le_of_ble_eq_true rfl)) dX11_grow_2 ⟨show 0 + 0 ≤ 0 by omega, show 0 + 0 ≤ 0 by omega⟩) (fun r1 h => ?_)
  refine lv_iconst (v := (1 : Int32)) hx hb dX11_grow_5 (by decide) ?_
  refine M_calli hw (MA.up hw.2.2.1.1) (va_runV (own := "LeastreaderModel") (As := [.int r1, .int (1 : Int32)]) (rest := []) ⟨hx, hb, hml, hown, ht⟩ (c_X11_isThrown μ H.size r1 (1 : Int32) h) (cwV 2 ht (G_V q_1348 q_1350 q_26 q_56 q_1351) rfl rfl rfl ⟨rfl, hd_92⟩ ⟨Nat.le_of_ble_eq_true rfl, Nat.le_of_ble_eq_true rfl⟩) ⟨MB.blind, M_recv hK hw, MB.pre hK hI hw va_P0 ne0⟩ rfl rfl hl.1 rfl (lv_room (Nat.le_of_ble_eq_true rfl)) dX11_grow_6 ⟨show 0 + 0 ≤ 0 by omega, show 0 + 0 ≤ 0 by omega⟩) (fun r3 μ2 H locs h hw => ?_)
  refine lv_if_eq (tgt := 14) hx hb dX11_grow_9 (by decide) (fun c4 => ?_) (fun c4 => ?_)
  · have h := h.1 c4
    refine lv_aload_n hx hb dX11_grow_14 rfl (lv_at hl 0 rfl) ?_
    refine m_get (i := 0) hx hb ht hown hK hw (by decide) (ht _ q_1313) rfl rfl dX11_grow_15 ?_
    refine lv_iload_n hx hb dX11_grow_18 rfl (lv_at hl 1 rfl) ?_
    obtain ⟨z5, h⟩ := h
    refine m_iald hx hb hK hw (by decide) z5 dX11_grow_19 ?_
    refine lv_bipush (v := (7 : Int32)) hx hb dX11_grow_20 (by decide) ?_
    refine lv_icmp_ne (tgt := 30) hx hb dX11_grow_22 (by decide) (fun c6 => ?_) (fun c6 => ?_)
    · have h := h.1 c6
      refine lv_aload_n hx hb dX11_grow_30 rfl (lv_at hl 0 rfl) ?_
      refine m_get (i := 0) hx hb ht hown hK hw (by decide) (ht _ q_1313) rfl rfl dX11_grow_31 ?_
      refine lv_iload_n hx hb dX11_grow_34 rfl (lv_at hl 1 rfl) ?_
      refine lv_dup2_11 hx hb dX11_grow_35 rfl rfl ?_
      obtain ⟨z7, h⟩ := h
      refine m_iald hx hb hK hw (by decide) z7 dX11_grow_36 ?_
      refine lv_iconst (v := (1 : Int32)) hx hb dX11_grow_37 (by decide) ?_
      refine lv_iadd hx hb dX11_grow_38 ?_
      obtain ⟨z8, h⟩ := h
      refine m_iast hx hb hK hw (by decide) z8 dX11_grow_39 (fun H locs hw => ?_)
      refine lv_aload_n hx hb dX11_grow_40 rfl (lv_at hl 0 rfl) ?_
      refine lv_aload_n hx hb dX11_grow_41 rfl (lv_at hl 0 rfl) ?_
      refine m_get (i := 0) hx hb ht hown hK hw (by decide) (ht _ q_1313) rfl rfl dX11_grow_42 ?_
      refine lv_iload_n hx hb dX11_grow_45 rfl (lv_at hl 1 rfl) ?_
      obtain ⟨z9, h⟩ := h
      refine m_iald hx hb hK hw (by decide) z9 dX11_grow_46 ?_
      refine lv_iconst (v := (1 : Int32)) hx hb dX11_grow_47 (by decide) ?_
      refine lv_isub hx hb dX11_grow_48 ?_
      refine M_calli hw (MA.up hw.2.2.1.1) (va_runV (own := "LeastreaderModel") (As := [.int (((tms μ2 1 a1.toNatClampNeg ((μ2 1 a1.toNatClampNeg) + (1 : Int32))) 1 a1.toNatClampNeg) - (1 : Int32))]) (rest := []) ⟨hx, hb, hml, hown, ht⟩ (c_X11_did (tms μ2 1 a1.toNatClampNeg ((μ2 1 a1.toNatClampNeg) + (1 : Int32))) H.size (((tms μ2 1 a1.toNatClampNeg ((μ2 1 a1.toNatClampNeg) + (1 : Int32))) 1 a1.toNatClampNeg) - (1 : Int32)) h) (cwV 1 ht (G_V q_1364 q_1366 q_29 q_56 q_1367) rfl rfl rfl ⟨rfl, hd_95⟩ ⟨Nat.le_of_ble_eq_true rfl, Nat.le_of_ble_eq_true rfl⟩) ⟨MB.blind, M_recv hK hw, MB.pre hK hI hw va_P0 ne0⟩ rfl rfl hl.1 rfl (lv_room (Nat.le_of_ble_eq_true rfl)) dX11_grow_49 ⟨show 0 + 0 ≤ 0 by omega, show 0 + 0 ≤ 0 by omega⟩) (fun r11 μ10 H locs h hw => ?_)
      exact hret H locs ls 52 _ _ _ _ _ hw h rfl (show 0 ≤ 0 by omega) (show 0 ≤ 0 by omega) dX11_grow_52
    have h := h.2 c6
    refine lv_aload_n hx hb dX11_grow_25 rfl (lv_at hl 0 rfl) ?_
    refine M_calli hw (MA.up hw.2.2.1.1) (va_runV (own := "LeastreaderModel") (As := []) (rest := []) ⟨hx, hb, hml, hown, ht⟩ (c_X11_refuse μ2 H.size h) (cwV 0 ht (G_V q_1429 q_1431 q_35 q_56 q_1432) rfl rfl rfl ⟨rfl, hd_101⟩ ⟨Nat.le_of_ble_eq_true rfl, Nat.le_of_ble_eq_true rfl⟩) ⟨MB.blind, M_recv hK hw, MB.pre hK hI hw va_P0 ne0⟩ rfl rfl hl.1 rfl (lv_room (Nat.le_of_ble_eq_true rfl)) dX11_grow_26 ⟨show 0 + 0 ≤ 0 by omega, show 0 + 0 ≤ 0 by omega⟩) (fun r13 μ12 H locs h hw => ?_)
    exact hret H locs ls 29 _ _ _ _ _ hw h rfl (show 0 ≤ 0 by omega) (show 0 ≤ 0 by omega) dX11_grow_29
  have h := h.2 c4
  refine lv_iconst (v := (0 : Int32)) hx hb dX11_grow_12 (by decide) ?_
  exact hret H locs ls 13 _ _ _ _ _ hw h rfl (show 0 ≤ 0 by omega) (show 0 ≤ 0 by omega) dX11_grow_13
def wp_X11_without (a0 : Int32) (a1 : Int32) (Q : Int32 → Prop) : Prop :=
  Q ((a0 &&& (((1 : Int32) <<< (a1 &&& 31)) - (1 : Int32))) ||| ((a0 >>> ((a1 + (1 : Int32)) &&& 31)) <<< (a1 &&& 31)))
set_option maxHeartbeats 4000000 in
set_option maxRecDepth 100000 in
theorem c_X11_without {l : Launch} (a0 : Int32) (a1 : Int32) {Q : Int32 → Prop} (h : wp_X11_without a0 a1 Q) : PMi l yX11_without (.code yX11_without cX11_without 2 (Option.some Jvm.ClassFile.FieldType.int)) 0 [.int a0, .int a1] Q := by
  refine P_meti (by decide +kernel) (Nat.le_of_ble_eq_true rfl) ?_
  intro p e s m below meth c Z ls hx hb hml hown ht hret hl
  have hl : lv_has ls 2 [(0, .int a0), (1, .int a1)] := hl
  change Q ((a0 &&& (((1 : Int32) <<< (a1 &&& 31)) - (1 : Int32))) ||| ((a0 >>> ((a1 + (1 : Int32)) &&& 31)) <<< (a1 &&& 31))) at h
  refine lv_iload_n hx hb dX11_without_0 rfl (lv_at hl 0 rfl) ?_
  refine lv_iconst (v := (1 : Int32)) hx hb dX11_without_1 (by decide) ?_
  refine lv_iload_n hx hb dX11_without_2 rfl (lv_at hl 1 rfl) ?_
  refine lv_ishl hx hb dX11_without_3 ?_
  refine lv_iconst (v := (1 : Int32)) hx hb dX11_without_4 (by decide) ?_
  refine lv_isub hx hb dX11_without_5 ?_
  refine lv_iand hx hb dX11_without_6 ?_
  refine lv_iload_n hx hb dX11_without_7 rfl (lv_at hl 0 rfl) ?_
  refine lv_iload_n hx hb dX11_without_8 rfl (lv_at hl 1 rfl) ?_
  refine lv_iconst (v := (1 : Int32)) hx hb dX11_without_9 (by decide) ?_
  refine lv_iadd hx hb dX11_without_10 ?_
  refine lv_ishr hx hb dX11_without_11 ?_
  refine lv_iload_n hx hb dX11_without_12 rfl (lv_at hl 1 rfl) ?_
  refine lv_ishl hx hb dX11_without_13 ?_
  refine lv_ior hx hb dX11_without_14 ?_
  exact hret ls 15 _ h rfl dX11_without_15
def wpl_X11_drop_60 (v15 : Int32) (v16 : Int32) (v17 : Int32) (K116 : TMem → Prop) : Nat → Int32 → TMem → Prop
  | 0, _, _ => False
  | n + 1, v14, μ18 =>
    wp_X11_key v16 (0 : Int32) (0 : Int32) (fun (r19 : Int32) => ((r19 + (21 : Int32)) ≤ v14 → (K116 μ18)) ∧ (¬ (r19 + (21 : Int32)) ≤ v14 → (wp_X11_key v16 (0 : Int32) (0 : Int32) (fun (r21 : Int32) => ((r21 + (21 : Int32)) ≤ (v14 + (3 : Int32)) → (vp_in v14 (ml 4) ∧ (wpl_X11_drop_60 v15 v16 v17 K116 n (v14 + (1 : Int32)) (tms μ18 4 v14.toNatClampNeg (0 : Int32))))) ∧ (¬ (r21 + (21 : Int32)) ≤ (v14 + (3 : Int32)) → (vp_in (v14 + (3 : Int32)) (ml 4) ∧ (vp_in v14 (ml 4) ∧ (wpl_X11_drop_60 v15 v16 v17 K116 n (v14 + (1 : Int32)) (tms μ18 4 v14.toNatClampNeg (μ18 4 (v14 + (3 : Int32)).toNatClampNeg))))))))))
def wpl_X11_drop_119 (v30 : Int32) (v31 : Int32) (v32 : Int32) (K164 : TMem → Prop) : Nat → Int32 → TMem → Prop
  | 0, _, _ => False
  | n + 1, v29, μ33 =>
    ((21 : Int32) ≤ v29 → (K164 μ33)) ∧ (¬ (21 : Int32) ≤ v29 → (wp_X11_key v31 (0 : Int32) (0 : Int32) (fun (r35 : Int32) => wp_X11_key v31 (0 : Int32) (0 : Int32) (fun (r36 : Int32) => vp_in (r36 + v29) (ml 4) ∧ (wp_X11_without (μ33 4 (r36 + v29).toNatClampNeg) v32 (fun (r38 : Int32) => vp_in (r35 + v29) (ml 4) ∧ (wpl_X11_drop_119 v30 v31 v32 K164 n (v29 + (1 : Int32)) (tms μ33 4 (r35 + v29).toNatClampNeg r38))))))))
def wp_X11_drop (μ : TMem) (a1 : Int32) (a2 : Int32) (Q : Int32 → TMem → Prop) : Prop :=
  wp_X11_isOne a1 (fun (r1 : Int32) => ∀ J2 : Int32 → Prop, (∀ (j3 : Int32), (wp_X11_isThrown μ j3 (1 : Int32) (fun (r5 : Int32) (μ4 : TMem) => (r5 = 0 → (vp_in a1 (ml 1) ∧ ((¬ (μ4 1 a1.toNatClampNeg) = (1 : Int32) → (wp_X11_arrowsOf μ4 a1 (fun (r11 : Int32) => wp_X11_key a1 a2 (0 : Int32) (fun (r12 : Int32) => ∃ n12x, wpl_X11_drop_60 r11 a1 a2 (fun (μ27 : TMem) => ∃ n27x, wpl_X11_drop_119 r11 a1 a2 (fun (μ41 : TMem) => vp_in a1 (ml 2) ∧ (wp_X11_without (μ41 2 a1.toNatClampNeg) a2 (fun (r43 : Int32) => vp_in a1 (ml 2) ∧ (vp_in a1 (ml 3) ∧ (wp_X11_without ((tms μ41 2 a1.toNatClampNeg r43) 3 a1.toNatClampNeg) a2 (fun (r46 : Int32) => vp_in a1 (ml 3) ∧ (vp_in a1 (ml 1) ∧ (vp_in a1 (ml 1) ∧ (wp_X11_arrowsOf (tms (tms (tms μ41 2 a1.toNatClampNeg r43) 3 a1.toNatClampNeg r46) 1 a1.toNatClampNeg (((tms (tms μ41 2 a1.toNatClampNeg r43) 3 a1.toNatClampNeg r46) 1 a1.toNatClampNeg) - (1 : Int32))) a1 (fun (r52 : Int32) => wp_X11_did (tms (tms (tms μ41 2 a1.toNatClampNeg r43) 3 a1.toNatClampNeg r46) 1 a1.toNatClampNeg (((tms (tms μ41 2 a1.toNatClampNeg r43) 3 a1.toNatClampNeg r46) 1 a1.toNatClampNeg) - (1 : Int32))) (r11 - r52) (fun (r54 : Int32) (μ53 : TMem) => Q r54 μ53))))))))))) n27x (0 : Int32) μ27) n12x r12 μ4)))) ∧ ((μ4 1 a1.toNatClampNeg) = (1 : Int32) → (wp_X11_refuse μ4 (fun (r56 : Int32) (μ55 : TMem) => Q r56 μ55)))))) ∧ (¬ r5 = 0 → (Q (0 : Int32) μ4)))) → J2 j3) → ((r1 = 0 → (J2 (0 : Int32))) ∧ (¬ r1 = 0 → (wp_X11_isState μ a1 a2 (fun (r60 : Int32) => (r60 = 0 → (J2 (0 : Int32))) ∧ (¬ r60 = 0 → (J2 (1 : Int32))))))))
set_option maxHeartbeats 4000000 in
set_option maxRecDepth 100000 in
theorem c_X11_drop {l : Launch} {D : va_G} {ad : Nat → Nat} {cI cL : ClassId}  (μ : TMem) (sz : Nat) (a1 : Int32) (a2 : Int32)  {Q : Int32 → TMem → Prop} (h : wp_X11_drop μ a1 a2 Q) : MMi l yX11_drop (.code yX11_drop cX11_drop 5 (Option.some Jvm.ClassFile.FieldType.int)) 2 0 0 [.ref (ad 0), .int a1, .int a2] D ad cI cL sz μ [] Q := by
  refine M_meti (by decide +kernel) (Nat.le_of_ble_eq_true rfl) ?_
  intro p e s m below meth c Z ls hx hb hml hown ht hK hP0 hI hne hw hret hl
  have hl : lv_has ls 5 [(0, .ref (ad 0)), (1, .int a1), (2, .int a2)] := hl
  suffices hh : ∀ (H : Heap) (locs : List Loc), MW D (MR ad cI μ) [] (MA ad s.heap.size) s H locs → W p l e (RA 2 0 0) s m #[.ref (ad 0), .int a1, .int a2] below meth c H locs 0 0 Z (F0 m 0 ls []) from hh _ _ hw
  intro H locs hw
  change wp_X11_isOne a1 (fun (r1 : Int32) => ∀ J2 : Int32 → Prop, (∀ (j3 : Int32), (wp_X11_isThrown μ j3 (1 : Int32) (fun (r5 : Int32) (μ4 : TMem) => (r5 = 0 → (vp_in a1 (ml 1) ∧ ((¬ (μ4 1 a1.toNatClampNeg) = (1 : Int32) → (wp_X11_arrowsOf μ4 a1 (fun (r11 : Int32) => wp_X11_key a1 a2 (0 : Int32) (fun (r12 : Int32) => ∃ n12x, wpl_X11_drop_60 r11 a1 a2 (fun (μ27 : TMem) => ∃ n27x, wpl_X11_drop_119 r11 a1 a2 (fun (μ41 : TMem) => vp_in a1 (ml 2) ∧ (wp_X11_without (μ41 2 a1.toNatClampNeg) a2 (fun (r43 : Int32) => vp_in a1 (ml 2) ∧ (vp_in a1 (ml 3) ∧ (wp_X11_without ((tms μ41 2 a1.toNatClampNeg r43) 3 a1.toNatClampNeg) a2 (fun (r46 : Int32) => vp_in a1 (ml 3) ∧ (vp_in a1 (ml 1) ∧ (vp_in a1 (ml 1) ∧ (wp_X11_arrowsOf (tms (tms (tms μ41 2 a1.toNatClampNeg r43) 3 a1.toNatClampNeg r46) 1 a1.toNatClampNeg (((tms (tms μ41 2 a1.toNatClampNeg r43) 3 a1.toNatClampNeg r46) 1 a1.toNatClampNeg) - (1 : Int32))) a1 (fun (r52 : Int32) => wp_X11_did (tms (tms (tms μ41 2 a1.toNatClampNeg r43) 3 a1.toNatClampNeg r46) 1 a1.toNatClampNeg (((tms (tms μ41 2 a1.toNatClampNeg r43) 3 a1.toNatClampNeg r46) 1 a1.toNatClampNeg) - (1 : Int32))) (r11 - r52) (fun (r54 : Int32) (μ53 : TMem) => Q r54 μ53))))))))))) n27x (0 : Int32) μ27) n12x r12 μ4)))) ∧ ((μ4 1 a1.toNatClampNeg) = (1 : Int32) → (wp_X11_refuse μ4 (fun (r56 : Int32) (μ55 : TMem) => Q r56 μ55)))))) ∧ (¬ r5 = 0 → (Q (0 : Int32) μ4)))) → J2 j3) → ((r1 = 0 → (J2 (0 : Int32))) ∧ (¬ r1 = 0 → (wp_X11_isState μ a1 a2 (fun (r60 : Int32) => (r60 = 0 → (J2 (0 : Int32))) ∧ (¬ r60 = 0 → (J2 (1 : Int32)))))))) at h
  refine lv_aload_n hx hb dX11_drop_0 rfl (lv_at hl 0 rfl) ?_
  refine lv_iload_n hx hb dX11_drop_1 rfl (lv_at hl 1 rfl) ?_
  refine P_calli (va_runS (own := "LeastreaderModel") (As := [.int a1]) (rest := [.ref (ad 0)]) ⟨hx, hb, hml, hown, ht⟩ (c_X11_isOne a1 h) (va_cwS 1 ht (G_S q_1342 q_1343 q_56 q_1344) rfl rfl rfl hd_91 ⟨Nat.le_of_ble_eq_true rfl, Nat.le_of_ble_eq_true rfl⟩) ⟨PM_blind, PM_pre⟩ rfl rfl hl.1 rfl (lv_room (Nat.le_of_ble_eq_true rfl)) dX11_drop_2 ⟨show 0 + 0 ≤ 0 by omega, show 0 + 0 ≤ 0 by omega⟩) (fun r1 h => ?_)
  have h := h (fun (j3 : Int32) => ∀ (H : Heap) (locs : List Loc) (ls : Array Slot), MW D (MR ad cI μ) [] (MA ad s.heap.size) s H locs → lv_has ls 5 [(0, .ref (ad 0)), (1, .int a1), (2, .int a2)] → W p l e (RA 2 0 0) s m #[.ref (ad 0), .int a1, .int a2] below meth c H locs 0 0 Z (F0 m 22 ls [.int j3, .ref (ad 0)])) (fun j3 h H locs ls hw hl => by
    refine lv_iconst (v := (1 : Int32)) hx hb dX11_drop_22 (by decide) ?_
    refine M_calli hw (MA.up hw.2.2.1.1) (va_runV (own := "LeastreaderModel") (As := [.int j3, .int (1 : Int32)]) (rest := []) ⟨hx, hb, hml, hown, ht⟩ (c_X11_isThrown μ H.size j3 (1 : Int32) h) (cwV 2 ht (G_V q_1348 q_1350 q_26 q_56 q_1351) rfl rfl rfl ⟨rfl, hd_92⟩ ⟨Nat.le_of_ble_eq_true rfl, Nat.le_of_ble_eq_true rfl⟩) ⟨MB.blind, M_recv hK hw, MB.pre hK hI hw va_P0 ne0⟩ rfl rfl hl.1 rfl (lv_room (Nat.le_of_ble_eq_true rfl)) dX11_drop_23 ⟨show 0 + 0 ≤ 0 by omega, show 0 + 0 ≤ 0 by omega⟩) (fun r5 μ4 H locs h hw => ?_)
    refine lv_if_eq (tgt := 31) hx hb dX11_drop_26 (by decide) (fun c6 => ?_) (fun c6 => ?_)
    · have h := h.1 c6
      refine lv_aload_n hx hb dX11_drop_31 rfl (lv_at hl 0 rfl) ?_
      refine m_get (i := 0) hx hb ht hown hK hw (by decide) (ht _ q_1313) rfl rfl dX11_drop_32 ?_
      refine lv_iload_n hx hb dX11_drop_35 rfl (lv_at hl 1 rfl) ?_
      obtain ⟨z7, h⟩ := h
      refine m_iald hx hb hK hw (by decide) z7 dX11_drop_36 ?_
      refine lv_iconst (v := (1 : Int32)) hx hb dX11_drop_37 (by decide) ?_
      refine lv_icmp_ne (tgt := 46) hx hb dX11_drop_38 (by decide) (fun c8 => ?_) (fun c8 => ?_)
      · have h := h.1 c8
        refine lv_aload_n hx hb dX11_drop_46 rfl (lv_at hl 0 rfl) ?_
        refine lv_iload_n hx hb dX11_drop_47 rfl (lv_at hl 1 rfl) ?_
        refine M_calli hw (MA.up hw.2.2.1.1) (va_runV (own := "LeastreaderModel") (As := [.int a1]) (rest := []) ⟨hx, hb, hml, hown, ht⟩ (c_X11_arrowsOf μ4 H.size a1 h) (cwV 1 ht (G_V q_1352 q_1354 q_27 q_56 q_1355) rfl rfl rfl ⟨rfl, hd_93⟩ ⟨Nat.le_of_ble_eq_true rfl, Nat.le_of_ble_eq_true rfl⟩) ⟨MB.blind, M_recv hK hw, MB.pre hK hI hw va_P0 ne0⟩ rfl rfl hl.1 rfl (lv_room (Nat.le_of_ble_eq_true rfl)) dX11_drop_48 ⟨show 0 + 0 ≤ 0 by omega, show 0 + 0 ≤ 0 by omega⟩) (fun r11 μ9 H locs h hw => ?_)
        obtain ⟨e10, h⟩ := h
        rw [e10] at hw
        refine lv_istore_n (lv' := [(3, .int r11), (0, .ref (ad 0)), (1, .int a1), (2, .int a2)]) hx hb dX11_drop_51 rfl hl (by decide) rfl (fun ls hl => ?_)
        refine lv_iload_n hx hb dX11_drop_52 rfl (lv_at hl 2 rfl) ?_
        refine lv_iload_n hx hb dX11_drop_53 rfl (lv_at hl 3 rfl) ?_
        refine lv_iconst (v := (0 : Int32)) hx hb dX11_drop_54 (by decide) ?_
        refine P_calli (va_runS (own := "LeastreaderModel") (As := [.int a1, .int a2, .int (0 : Int32)]) (rest := []) ⟨hx, hb, hml, hown, ht⟩ (c_X11_key a1 a2 (0 : Int32) h) (va_cwS 3 ht (G_S q_1356 q_1357 q_56 q_1358) rfl rfl rfl hd_79 ⟨Nat.le_of_ble_eq_true rfl, Nat.le_of_ble_eq_true rfl⟩) ⟨PM_blind, PM_pre⟩ rfl rfl hl.1 rfl (lv_room (Nat.le_of_ble_eq_true rfl)) dX11_drop_55 ⟨show 0 + 0 ≤ 0 by omega, show 0 + 0 ≤ 0 by omega⟩) (fun r12 h => ?_)
        refine lv_istore (lv' := [(4, .int r12), (3, .int r11), (0, .ref (ad 0)), (1, .int a1), (2, .int a2)]) hx hb dX11_drop_58 hl (by decide) rfl (fun ls hl => ?_)
        obtain ⟨n26, h⟩ := h
        have L12 : ∀ (v15 : Int32) (v16 : Int32) (v17 : Int32) (K116 : TMem → Prop), (∀ (μ18 : TMem), ∀ (H : Heap) (locs : List Loc) (ls : Array Slot), MW D (MR ad cI μ18) [] (MA ad s.heap.size) s H locs → lv_has ls 5 [(3, .int v15), (0, .ref (ad 0)), (1, .int v16), (2, .int v17)] → K116 μ18 → W p l e (RA 2 0 0) s m #[.ref (ad 0), .int a1, .int a2] below meth c H locs 0 0 Z (F0 m 116 ls [])) → ∀ (n : Nat), ∀ (v14 : Int32) (μ18 : TMem), ∀ (H : Heap) (locs : List Loc) (ls : Array Slot), MW D (MR ad cI μ18) [] (MA ad s.heap.size) s H locs → lv_has ls 5 [(4, .int v14), (3, .int v15), (0, .ref (ad 0)), (1, .int v16), (2, .int v17)] → wpl_X11_drop_60 v15 v16 v17 K116 n v14 μ18 → W p l e (RA 2 0 0) s m #[.ref (ad 0), .int a1, .int a2] below meth c H locs 0 0 Z (F0 m 60 ls []) := by
          intro v15 v16 v17 K116 hK116
          intro n
          induction n with
          | zero => intro v14 μ18 H locs ls hw hl h; exact False.elim h
          | succ n ih12 =>
            intro v14 μ18 H locs ls hw hl h
            change wp_X11_key v16 (0 : Int32) (0 : Int32) (fun (r19 : Int32) => ((r19 + (21 : Int32)) ≤ v14 → (K116 μ18)) ∧ (¬ (r19 + (21 : Int32)) ≤ v14 → (wp_X11_key v16 (0 : Int32) (0 : Int32) (fun (r21 : Int32) => ((r21 + (21 : Int32)) ≤ (v14 + (3 : Int32)) → (vp_in v14 (ml 4) ∧ (wpl_X11_drop_60 v15 v16 v17 K116 n (v14 + (1 : Int32)) (tms μ18 4 v14.toNatClampNeg (0 : Int32))))) ∧ (¬ (r21 + (21 : Int32)) ≤ (v14 + (3 : Int32)) → (vp_in (v14 + (3 : Int32)) (ml 4) ∧ (vp_in v14 (ml 4) ∧ (wpl_X11_drop_60 v15 v16 v17 K116 n (v14 + (1 : Int32)) (tms μ18 4 v14.toNatClampNeg (μ18 4 (v14 + (3 : Int32)).toNatClampNeg)))))))))) at h
            refine lv_iload hx hb dX11_drop_60 (lv_at hl 0 rfl) ?_
            refine lv_iload_n hx hb dX11_drop_62 rfl (lv_at hl 3 rfl) ?_
            refine lv_iconst (v := (0 : Int32)) hx hb dX11_drop_63 (by decide) ?_
            refine lv_iconst (v := (0 : Int32)) hx hb dX11_drop_64 (by decide) ?_
            refine P_calli (va_runS (own := "LeastreaderModel") (As := [.int v16, .int (0 : Int32), .int (0 : Int32)]) (rest := [.int v14]) ⟨hx, hb, hml, hown, ht⟩ (c_X11_key v16 (0 : Int32) (0 : Int32) h) (va_cwS 3 ht (G_S q_1356 q_1357 q_56 q_1358) rfl rfl rfl hd_79 ⟨Nat.le_of_ble_eq_true rfl, Nat.le_of_ble_eq_true rfl⟩) ⟨PM_blind, PM_pre⟩ rfl rfl hl.1 rfl (lv_room (Nat.le_of_ble_eq_true rfl)) dX11_drop_65 ⟨show 0 + 0 ≤ 0 by omega, show 0 + 0 ≤ 0 by omega⟩) (fun r19 h => ?_)
            refine lv_bipush (v := (21 : Int32)) hx hb dX11_drop_68 (by decide) ?_
            refine lv_iadd hx hb dX11_drop_70 ?_
            refine lv_icmp_ge (tgt := 116) hx hb dX11_drop_71 (by decide) (fun c20 => ?_) (fun c20 => ?_)
            · have h := h.1 c20
              exact hK116 μ18 H locs ls hw (lv_sub hl [1, 2, 3, 4] rfl) h
            have h := h.2 c20
            refine lv_aload_n hx hb dX11_drop_74 rfl (lv_at hl 2 rfl) ?_
            refine m_get (i := 3) hx hb ht hown hK hw (by decide) (ht _ q_1316) rfl rfl dX11_drop_75 ?_
            refine lv_iload hx hb dX11_drop_78 (lv_at hl 0 rfl) ?_
            refine lv_iload hx hb dX11_drop_80 (lv_at hl 0 rfl) ?_
            refine lv_iconst (v := (3 : Int32)) hx hb dX11_drop_82 (by decide) ?_
            refine lv_iadd hx hb dX11_drop_83 ?_
            refine lv_iload_n hx hb dX11_drop_84 rfl (lv_at hl 3 rfl) ?_
            refine lv_iconst (v := (0 : Int32)) hx hb dX11_drop_85 (by decide) ?_
            refine lv_iconst (v := (0 : Int32)) hx hb dX11_drop_86 (by decide) ?_
            refine P_calli (va_runS (own := "LeastreaderModel") (As := [.int v16, .int (0 : Int32), .int (0 : Int32)]) (rest := [.int (v14 + (3 : Int32)), .int v14, .ref (ad 4)]) ⟨hx, hb, hml, hown, ht⟩ (c_X11_key v16 (0 : Int32) (0 : Int32) h) (va_cwS 3 ht (G_S q_1356 q_1357 q_56 q_1358) rfl rfl rfl hd_79 ⟨Nat.le_of_ble_eq_true rfl, Nat.le_of_ble_eq_true rfl⟩) ⟨PM_blind, PM_pre⟩ rfl rfl hl.1 rfl (lv_room (Nat.le_of_ble_eq_true rfl)) dX11_drop_87 ⟨show 0 + 0 ≤ 0 by omega, show 0 + 0 ≤ 0 by omega⟩) (fun r21 h => ?_)
            refine lv_bipush (v := (21 : Int32)) hx hb dX11_drop_90 (by decide) ?_
            refine lv_iadd hx hb dX11_drop_92 ?_
            refine lv_icmp_ge (tgt := 108) hx hb dX11_drop_93 (by decide) (fun c22 => ?_) (fun c22 => ?_)
            · have h := h.1 c22
              refine lv_iconst (v := (0 : Int32)) hx hb dX11_drop_108 (by decide) ?_
              obtain ⟨z23, h⟩ := h
              refine m_iast hx hb hK hw (by decide) z23 dX11_drop_109 (fun H locs hw => ?_)
              refine lv_iinc (v := (v14 + (1 : Int32))) (lv' := [(4, .int (v14 + (1 : Int32))), (3, .int v15), (0, .ref (ad 0)), (1, .int v16), (2, .int v17)]) hx hb dX11_drop_110 hl (k := 0) rfl rfl (by decide) rfl (fun ls hl => ?_)
              refine lv_goto (tgt := 60) hx hb dX11_drop_113 (by decide) ?_
              exact ih12 (v14 + (1 : Int32)) (tms μ18 4 v14.toNatClampNeg (0 : Int32)) H locs ls hw (lv_sub hl [0, 1, 2, 3, 4] rfl) h
            have h := h.2 c22
            refine lv_aload_n hx hb dX11_drop_96 rfl (lv_at hl 2 rfl) ?_
            refine m_get (i := 3) hx hb ht hown hK hw (by decide) (ht _ q_1316) rfl rfl dX11_drop_97 ?_
            refine lv_iload hx hb dX11_drop_100 (lv_at hl 0 rfl) ?_
            refine lv_iconst (v := (3 : Int32)) hx hb dX11_drop_102 (by decide) ?_
            refine lv_iadd hx hb dX11_drop_103 ?_
            obtain ⟨z24, h⟩ := h
            refine m_iald hx hb hK hw (by decide) z24 dX11_drop_104 ?_
            refine lv_goto (tgt := 109) hx hb dX11_drop_105 (by decide) ?_
            obtain ⟨z25, h⟩ := h
            refine m_iast hx hb hK hw (by decide) z25 dX11_drop_109 (fun H locs hw => ?_)
            refine lv_iinc (v := (v14 + (1 : Int32))) (lv' := [(4, .int (v14 + (1 : Int32))), (3, .int v15), (0, .ref (ad 0)), (1, .int v16), (2, .int v17)]) hx hb dX11_drop_110 hl (k := 0) rfl rfl (by decide) rfl (fun ls hl => ?_)
            refine lv_goto (tgt := 60) hx hb dX11_drop_113 (by decide) ?_
            exact ih12 (v14 + (1 : Int32)) (tms μ18 4 v14.toNatClampNeg (μ18 4 (v14 + (3 : Int32)).toNatClampNeg)) H locs ls hw (lv_sub hl [0, 1, 2, 3, 4] rfl) h
        refine L12 r11 a1 a2 _ ?_ n26 r12 μ4 H locs ls hw (lv_sub hl [0, 1, 2, 3, 4] rfl) h
        intro μ27 H locs ls hw hl h
        refine lv_iconst (v := (0 : Int32)) hx hb dX11_drop_116 (by decide) ?_
        refine lv_istore (lv' := [(4, .int (0 : Int32)), (3, .int r11), (0, .ref (ad 0)), (1, .int a1), (2, .int a2)]) hx hb dX11_drop_117 hl (by decide) rfl (fun ls hl => ?_)
        obtain ⟨n40, h⟩ := h
        have L27 : ∀ (v30 : Int32) (v31 : Int32) (v32 : Int32) (K164 : TMem → Prop), (∀ (μ33 : TMem), ∀ (H : Heap) (locs : List Loc) (ls : Array Slot), MW D (MR ad cI μ33) [] (MA ad s.heap.size) s H locs → lv_has ls 5 [(3, .int v30), (0, .ref (ad 0)), (1, .int v31), (2, .int v32)] → K164 μ33 → W p l e (RA 2 0 0) s m #[.ref (ad 0), .int a1, .int a2] below meth c H locs 0 0 Z (F0 m 164 ls [])) → ∀ (n : Nat), ∀ (v29 : Int32) (μ33 : TMem), ∀ (H : Heap) (locs : List Loc) (ls : Array Slot), MW D (MR ad cI μ33) [] (MA ad s.heap.size) s H locs → lv_has ls 5 [(4, .int v29), (3, .int v30), (0, .ref (ad 0)), (1, .int v31), (2, .int v32)] → wpl_X11_drop_119 v30 v31 v32 K164 n v29 μ33 → W p l e (RA 2 0 0) s m #[.ref (ad 0), .int a1, .int a2] below meth c H locs 0 0 Z (F0 m 119 ls []) := by
          intro v30 v31 v32 K164 hK164
          intro n
          induction n with
          | zero => intro v29 μ33 H locs ls hw hl h; exact False.elim h
          | succ n ih27 =>
            intro v29 μ33 H locs ls hw hl h
            change ((21 : Int32) ≤ v29 → (K164 μ33)) ∧ (¬ (21 : Int32) ≤ v29 → (wp_X11_key v31 (0 : Int32) (0 : Int32) (fun (r35 : Int32) => wp_X11_key v31 (0 : Int32) (0 : Int32) (fun (r36 : Int32) => vp_in (r36 + v29) (ml 4) ∧ (wp_X11_without (μ33 4 (r36 + v29).toNatClampNeg) v32 (fun (r38 : Int32) => vp_in (r35 + v29) (ml 4) ∧ (wpl_X11_drop_119 v30 v31 v32 K164 n (v29 + (1 : Int32)) (tms μ33 4 (r35 + v29).toNatClampNeg r38)))))))) at h
            refine lv_iload hx hb dX11_drop_119 (lv_at hl 0 rfl) ?_
            refine lv_bipush (v := (21 : Int32)) hx hb dX11_drop_121 (by decide) ?_
            refine lv_icmp_ge (tgt := 164) hx hb dX11_drop_123 (by decide) (fun c34 => ?_) (fun c34 => ?_)
            · have h := h.1 c34
              exact hK164 μ33 H locs ls hw (lv_sub hl [1, 2, 3, 4] rfl) h
            have h := h.2 c34
            refine lv_aload_n hx hb dX11_drop_126 rfl (lv_at hl 2 rfl) ?_
            refine m_get (i := 3) hx hb ht hown hK hw (by decide) (ht _ q_1316) rfl rfl dX11_drop_127 ?_
            refine lv_iload_n hx hb dX11_drop_130 rfl (lv_at hl 3 rfl) ?_
            refine lv_iconst (v := (0 : Int32)) hx hb dX11_drop_131 (by decide) ?_
            refine lv_iconst (v := (0 : Int32)) hx hb dX11_drop_132 (by decide) ?_
            refine P_calli (va_runS (own := "LeastreaderModel") (As := [.int v31, .int (0 : Int32), .int (0 : Int32)]) (rest := [.ref (ad 4)]) ⟨hx, hb, hml, hown, ht⟩ (c_X11_key v31 (0 : Int32) (0 : Int32) h) (va_cwS 3 ht (G_S q_1356 q_1357 q_56 q_1358) rfl rfl rfl hd_79 ⟨Nat.le_of_ble_eq_true rfl, Nat.le_of_ble_eq_true rfl⟩) ⟨PM_blind, PM_pre⟩ rfl rfl hl.1 rfl (lv_room (Nat.le_of_ble_eq_true rfl)) dX11_drop_133 ⟨show 0 + 0 ≤ 0 by omega, show 0 + 0 ≤ 0 by omega⟩) (fun r35 h => ?_)
            refine lv_iload hx hb dX11_drop_136 (lv_at hl 0 rfl) ?_
            refine lv_iadd hx hb dX11_drop_138 ?_
            refine lv_aload_n hx hb dX11_drop_139 rfl (lv_at hl 2 rfl) ?_
            refine m_get (i := 3) hx hb ht hown hK hw (by decide) (ht _ q_1316) rfl rfl dX11_drop_140 ?_
            refine lv_iload_n hx hb dX11_drop_143 rfl (lv_at hl 3 rfl) ?_
            refine lv_iconst (v := (0 : Int32)) hx hb dX11_drop_144 (by decide) ?_
            refine lv_iconst (v := (0 : Int32)) hx hb dX11_drop_145 (by decide) ?_
            refine P_calli (va_runS (own := "LeastreaderModel") (As := [.int v31, .int (0 : Int32), .int (0 : Int32)]) (rest := [.ref (ad 4), .int (r35 + v29), .ref (ad 4)]) ⟨hx, hb, hml, hown, ht⟩ (c_X11_key v31 (0 : Int32) (0 : Int32) h) (va_cwS 3 ht (G_S q_1356 q_1357 q_56 q_1358) rfl rfl rfl hd_79 ⟨Nat.le_of_ble_eq_true rfl, Nat.le_of_ble_eq_true rfl⟩) ⟨PM_blind, PM_pre⟩ rfl rfl hl.1 rfl (lv_room (Nat.le_of_ble_eq_true rfl)) dX11_drop_146 ⟨show 0 + 0 ≤ 0 by omega, show 0 + 0 ≤ 0 by omega⟩) (fun r36 h => ?_)
            refine lv_iload hx hb dX11_drop_149 (lv_at hl 0 rfl) ?_
            refine lv_iadd hx hb dX11_drop_151 ?_
            obtain ⟨z37, h⟩ := h
            refine m_iald hx hb hK hw (by decide) z37 dX11_drop_152 ?_
            refine lv_iload_n hx hb dX11_drop_153 rfl (lv_at hl 4 rfl) ?_
            refine P_calli (va_runS (own := "LeastreaderModel") (As := [.int (μ33 4 (r36 + v29).toNatClampNeg), .int v32]) (rest := [.int (r35 + v29), .ref (ad 4)]) ⟨hx, hb, hml, hown, ht⟩ (c_X11_without (μ33 4 (r36 + v29).toNatClampNeg) v32 h) (va_cwS 2 ht (G_S q_1441 q_1442 q_56 q_1443) rfl rfl rfl hd_102 ⟨Nat.le_of_ble_eq_true rfl, Nat.le_of_ble_eq_true rfl⟩) ⟨PM_blind, PM_pre⟩ rfl rfl hl.1 rfl (lv_room (Nat.le_of_ble_eq_true rfl)) dX11_drop_154 ⟨show 0 + 0 ≤ 0 by omega, show 0 + 0 ≤ 0 by omega⟩) (fun r38 h => ?_)
            obtain ⟨z39, h⟩ := h
            refine m_iast hx hb hK hw (by decide) z39 dX11_drop_157 (fun H locs hw => ?_)
            refine lv_iinc (v := (v29 + (1 : Int32))) (lv' := [(4, .int (v29 + (1 : Int32))), (3, .int v30), (0, .ref (ad 0)), (1, .int v31), (2, .int v32)]) hx hb dX11_drop_158 hl (k := 0) rfl rfl (by decide) rfl (fun ls hl => ?_)
            refine lv_goto (tgt := 119) hx hb dX11_drop_161 (by decide) ?_
            exact ih27 (v29 + (1 : Int32)) (tms μ33 4 (r35 + v29).toNatClampNeg r38) H locs ls hw (lv_sub hl [0, 1, 2, 3, 4] rfl) h
        refine L27 r11 a1 a2 _ ?_ n40 (0 : Int32) μ27 H locs ls hw (lv_sub hl [0, 1, 2, 3, 4] rfl) h
        intro μ41 H locs ls hw hl h
        refine lv_aload_n hx hb dX11_drop_164 rfl (lv_at hl 1 rfl) ?_
        refine m_get (i := 1) hx hb ht hown hK hw (by decide) (ht _ q_1314) rfl rfl dX11_drop_165 ?_
        refine lv_iload_n hx hb dX11_drop_168 rfl (lv_at hl 2 rfl) ?_
        refine lv_aload_n hx hb dX11_drop_169 rfl (lv_at hl 1 rfl) ?_
        refine m_get (i := 1) hx hb ht hown hK hw (by decide) (ht _ q_1314) rfl rfl dX11_drop_170 ?_
        refine lv_iload_n hx hb dX11_drop_173 rfl (lv_at hl 2 rfl) ?_
        obtain ⟨z42, h⟩ := h
        refine m_iald hx hb hK hw (by decide) z42 dX11_drop_174 ?_
        refine lv_iload_n hx hb dX11_drop_175 rfl (lv_at hl 3 rfl) ?_
        refine P_calli (va_runS (own := "LeastreaderModel") (As := [.int (μ41 2 a1.toNatClampNeg), .int a2]) (rest := [.int a1, .ref (ad 2)]) ⟨hx, hb, hml, hown, ht⟩ (c_X11_without (μ41 2 a1.toNatClampNeg) a2 h) (va_cwS 2 ht (G_S q_1441 q_1442 q_56 q_1443) rfl rfl rfl hd_102 ⟨Nat.le_of_ble_eq_true rfl, Nat.le_of_ble_eq_true rfl⟩) ⟨PM_blind, PM_pre⟩ rfl rfl hl.1 rfl (lv_room (Nat.le_of_ble_eq_true rfl)) dX11_drop_176 ⟨show 0 + 0 ≤ 0 by omega, show 0 + 0 ≤ 0 by omega⟩) (fun r43 h => ?_)
        obtain ⟨z44, h⟩ := h
        refine m_iast hx hb hK hw (by decide) z44 dX11_drop_179 (fun H locs hw => ?_)
        refine lv_aload_n hx hb dX11_drop_180 rfl (lv_at hl 1 rfl) ?_
        refine m_get (i := 2) hx hb ht hown hK hw (by decide) (ht _ q_1315) rfl rfl dX11_drop_181 ?_
        refine lv_iload_n hx hb dX11_drop_184 rfl (lv_at hl 2 rfl) ?_
        refine lv_aload_n hx hb dX11_drop_185 rfl (lv_at hl 1 rfl) ?_
        refine m_get (i := 2) hx hb ht hown hK hw (by decide) (ht _ q_1315) rfl rfl dX11_drop_186 ?_
        refine lv_iload_n hx hb dX11_drop_189 rfl (lv_at hl 2 rfl) ?_
        obtain ⟨z45, h⟩ := h
        refine m_iald hx hb hK hw (by decide) z45 dX11_drop_190 ?_
        refine lv_iload_n hx hb dX11_drop_191 rfl (lv_at hl 3 rfl) ?_
        refine P_calli (va_runS (own := "LeastreaderModel") (As := [.int ((tms μ41 2 a1.toNatClampNeg r43) 3 a1.toNatClampNeg), .int a2]) (rest := [.int a1, .ref (ad 3)]) ⟨hx, hb, hml, hown, ht⟩ (c_X11_without ((tms μ41 2 a1.toNatClampNeg r43) 3 a1.toNatClampNeg) a2 h) (va_cwS 2 ht (G_S q_1441 q_1442 q_56 q_1443) rfl rfl rfl hd_102 ⟨Nat.le_of_ble_eq_true rfl, Nat.le_of_ble_eq_true rfl⟩) ⟨PM_blind, PM_pre⟩ rfl rfl hl.1 rfl (lv_room (Nat.le_of_ble_eq_true rfl)) dX11_drop_192 ⟨show 0 + 0 ≤ 0 by omega, show 0 + 0 ≤ 0 by omega⟩) (fun r46 h => ?_)
        obtain ⟨z47, h⟩ := h
        refine m_iast hx hb hK hw (by decide) z47 dX11_drop_195 (fun H locs hw => ?_)
        refine lv_aload_n hx hb dX11_drop_196 rfl (lv_at hl 1 rfl) ?_
        refine m_get (i := 0) hx hb ht hown hK hw (by decide) (ht _ q_1313) rfl rfl dX11_drop_197 ?_
        refine lv_iload_n hx hb dX11_drop_200 rfl (lv_at hl 2 rfl) ?_
        refine lv_dup2_11 hx hb dX11_drop_201 rfl rfl ?_
        obtain ⟨z48, h⟩ := h
        refine m_iald hx hb hK hw (by decide) z48 dX11_drop_202 ?_
        refine lv_iconst (v := (1 : Int32)) hx hb dX11_drop_203 (by decide) ?_
        refine lv_isub hx hb dX11_drop_204 ?_
        obtain ⟨z49, h⟩ := h
        refine m_iast hx hb hK hw (by decide) z49 dX11_drop_205 (fun H locs hw => ?_)
        refine lv_aload_n hx hb dX11_drop_206 rfl (lv_at hl 1 rfl) ?_
        refine lv_iload_n hx hb dX11_drop_207 rfl (lv_at hl 0 rfl) ?_
        refine lv_aload_n hx hb dX11_drop_208 rfl (lv_at hl 1 rfl) ?_
        refine lv_iload_n hx hb dX11_drop_209 rfl (lv_at hl 2 rfl) ?_
        refine M_calli hw (MA.up hw.2.2.1.1) (va_runV (own := "LeastreaderModel") (As := [.int a1]) (rest := [.int r11, .ref (ad 0)]) ⟨hx, hb, hml, hown, ht⟩ (c_X11_arrowsOf (tms (tms (tms μ41 2 a1.toNatClampNeg r43) 3 a1.toNatClampNeg r46) 1 a1.toNatClampNeg (((tms (tms μ41 2 a1.toNatClampNeg r43) 3 a1.toNatClampNeg r46) 1 a1.toNatClampNeg) - (1 : Int32))) H.size a1 h) (cwV 1 ht (G_V q_1352 q_1354 q_27 q_56 q_1355) rfl rfl rfl ⟨rfl, hd_93⟩ ⟨Nat.le_of_ble_eq_true rfl, Nat.le_of_ble_eq_true rfl⟩) ⟨MB.blind, M_recv hK hw, MB.pre hK hI hw va_P0 ne0⟩ rfl rfl hl.1 rfl (lv_room (Nat.le_of_ble_eq_true rfl)) dX11_drop_210 ⟨show 0 + 0 ≤ 0 by omega, show 0 + 0 ≤ 0 by omega⟩) (fun r52 μ50 H locs h hw => ?_)
        obtain ⟨e51, h⟩ := h
        rw [e51] at hw
        refine lv_isub hx hb dX11_drop_213 ?_
        refine M_calli hw (MA.up hw.2.2.1.1) (va_runV (own := "LeastreaderModel") (As := [.int (r11 - r52)]) (rest := []) ⟨hx, hb, hml, hown, ht⟩ (c_X11_did (tms (tms (tms μ41 2 a1.toNatClampNeg r43) 3 a1.toNatClampNeg r46) 1 a1.toNatClampNeg (((tms (tms μ41 2 a1.toNatClampNeg r43) 3 a1.toNatClampNeg r46) 1 a1.toNatClampNeg) - (1 : Int32))) H.size (r11 - r52) h) (cwV 1 ht (G_V q_1364 q_1366 q_29 q_56 q_1367) rfl rfl rfl ⟨rfl, hd_95⟩ ⟨Nat.le_of_ble_eq_true rfl, Nat.le_of_ble_eq_true rfl⟩) ⟨MB.blind, M_recv hK hw, MB.pre hK hI hw va_P0 ne0⟩ rfl rfl hl.1 rfl (lv_room (Nat.le_of_ble_eq_true rfl)) dX11_drop_214 ⟨show 0 + 0 ≤ 0 by omega, show 0 + 0 ≤ 0 by omega⟩) (fun r54 μ53 H locs h hw => ?_)
        exact hret H locs ls 217 _ _ _ _ _ hw h rfl (show 0 ≤ 0 by omega) (show 0 ≤ 0 by omega) dX11_drop_217
      have h := h.2 c8
      refine lv_aload_n hx hb dX11_drop_41 rfl (lv_at hl 0 rfl) ?_
      refine M_calli hw (MA.up hw.2.2.1.1) (va_runV (own := "LeastreaderModel") (As := []) (rest := []) ⟨hx, hb, hml, hown, ht⟩ (c_X11_refuse μ4 H.size h) (cwV 0 ht (G_V q_1429 q_1431 q_35 q_56 q_1432) rfl rfl rfl ⟨rfl, hd_101⟩ ⟨Nat.le_of_ble_eq_true rfl, Nat.le_of_ble_eq_true rfl⟩) ⟨MB.blind, M_recv hK hw, MB.pre hK hI hw va_P0 ne0⟩ rfl rfl hl.1 rfl (lv_room (Nat.le_of_ble_eq_true rfl)) dX11_drop_42 ⟨show 0 + 0 ≤ 0 by omega, show 0 + 0 ≤ 0 by omega⟩) (fun r56 μ55 H locs h hw => ?_)
      exact hret H locs ls 45 _ _ _ _ _ hw h rfl (show 0 ≤ 0 by omega) (show 0 ≤ 0 by omega) dX11_drop_45
    have h := h.2 c6
    refine lv_iconst (v := (0 : Int32)) hx hb dX11_drop_29 (by decide) ?_
    exact hret H locs ls 30 _ _ _ _ _ hw h rfl (show 0 ≤ 0 by omega) (show 0 ≤ 0 by omega) dX11_drop_30)
  refine lv_if_eq (tgt := 21) hx hb dX11_drop_5 (by decide) (fun c57 => ?_) (fun c57 => ?_)
  · have h := h.1 c57
    refine lv_iconst (v := (0 : Int32)) hx hb dX11_drop_21 (by decide) ?_
    exact h H locs ls hw (lv_sub hl [0, 1, 2] rfl)
  have h := h.2 c57
  refine lv_aload_n hx hb dX11_drop_8 rfl (lv_at hl 0 rfl) ?_
  refine lv_iload_n hx hb dX11_drop_9 rfl (lv_at hl 1 rfl) ?_
  refine lv_iload_n hx hb dX11_drop_10 rfl (lv_at hl 2 rfl) ?_
  refine M_calli hw (MA.up hw.2.2.1.1) (va_runV (own := "LeastreaderModel") (As := [.int a1, .int a2]) (rest := [.ref (ad 0)]) ⟨hx, hb, hml, hown, ht⟩ (c_X11_isState μ H.size a1 a2 h) (cwV 2 ht (G_V q_1376 q_1378 q_31 q_56 q_1379) rfl rfl rfl ⟨rfl, hd_96⟩ ⟨Nat.le_of_ble_eq_true rfl, Nat.le_of_ble_eq_true rfl⟩) ⟨MB.blind, M_recv hK hw, MB.pre hK hI hw va_P0 ne0⟩ rfl rfl hl.1 rfl (lv_room (Nat.le_of_ble_eq_true rfl)) dX11_drop_11 ⟨show 0 + 0 ≤ 0 by omega, show 0 + 0 ≤ 0 by omega⟩) (fun r60 μ58 H locs h hw => ?_)
  obtain ⟨e59, h⟩ := h
  rw [e59] at hw
  refine lv_if_eq (tgt := 21) hx hb dX11_drop_14 (by decide) (fun c61 => ?_) (fun c61 => ?_)
  · have h := h.1 c61
    refine lv_iconst (v := (0 : Int32)) hx hb dX11_drop_21 (by decide) ?_
    exact h H locs ls hw (lv_sub hl [0, 1, 2] rfl)
  have h := h.2 c61
  refine lv_iconst (v := (1 : Int32)) hx hb dX11_drop_17 (by decide) ?_
  refine lv_goto (tgt := 22) hx hb dX11_drop_18 (by decide) ?_
  exact h H locs ls hw (lv_sub hl [0, 1, 2] rfl)
end
/-! part 71.r10 -/
section
def wpl_X11_become_58 (fa2 : Nat → Int32) (na2 : Nat) (v14 : Int32) (v15 : Int32) (K92 : TMem → Prop) : Nat → Int32 → TMem → Prop
  | 0, _, _ => False
  | n + 1, v13, μ16 =>
    ((3 : Int32) ≤ v13 → (K92 μ16)) ∧ (¬ (3 : Int32) ≤ v13 → (wp_X11_key v15 v14 v13 (fun (r18 : Int32) => vp_in (((4 : Int32) * v14) + v13) na2 ∧ (vp_in r18 (ml 4) ∧ (wpl_X11_become_58 fa2 na2 v14 v15 K92 n (v13 + (1 : Int32)) (tms μ16 4 r18.toNatClampNeg ((1 : Int32) <<< ((fa2 (((4 : Int32) * v14) + v13).toNatClampNeg) &&& 31))))))))
def wpl_X11_become_27 (fa2 : Nat → Int32) (na2 : Nat) (v5 : Int32) (K98 : TMem → Prop) : Nat → Int32 → TMem → Prop
  | 0, _, _ => False
  | n + 1, v4, μ6 =>
    vp_in v5 (ml 1) ∧ (((μ6 1 v5.toNatClampNeg) ≤ v4 → (K98 μ6)) ∧ (¬ (μ6 1 v5.toNatClampNeg) ≤ v4 → (vp_in v5 (ml 3) ∧ (vp_in (((4 : Int32) * v4) + (3 : Int32)) na2 ∧ (vp_in v5 (ml 3) ∧ (∃ n11x, wpl_X11_become_58 fa2 na2 v4 v5 (fun (μ22 : TMem) => wpl_X11_become_27 fa2 na2 v5 K98 n (v4 + (1 : Int32)) μ22) n11x (0 : Int32) (tms μ6 3 v5.toNatClampNeg ((μ6 3 v5.toNatClampNeg) ||| ((fa2 (((4 : Int32) * v4) + (3 : Int32)).toNatClampNeg) <<< (v4 &&& 31))))))))))
def wp_X11_become (μ : TMem) (a1 : Int32) (na2 : Nat) (fa2 : Nat → Int32) (Q : Int32 → TMem → Prop) : Prop :=
  ((nI na2) ≤ (28 : Int32) → (wp_X11_clear μ a1 ((nI na2) / (4 : Int32)) (fun (μ2 : TMem) => ∃ n2x, wpl_X11_become_27 fa2 na2 a1 (fun (μ24 : TMem) => vp_in a1 (ml 1) ∧ (wp_X11_did μ24 (μ24 1 a1.toNatClampNeg) (fun (r27 : Int32) (μ26 : TMem) => Q r27 μ26))) n2x (0 : Int32) μ2))) ∧ (¬ (nI na2) ≤ (28 : Int32) → (wp_X11_refuse μ (fun (r29 : Int32) (μ28 : TMem) => Q r29 μ28)))
set_option maxHeartbeats 4000000 in
set_option maxRecDepth 100000 in
theorem c_X11_become {l : Launch} {D : va_G} {ad : Nat → Nat} {cI cL : ClassId} (qa2 : Nat) (μ : TMem) (sz : Nat) (a1 : Int32) (na2 : Nat) (fa2 : Nat → Int32)  {Q : Int32 → TMem → Prop} (h : wp_X11_become μ a1 na2 fa2 Q) : MMi l yX11_become (.code yX11_become cX11_become 5 (Option.some Jvm.ClassFile.FieldType.int)) 2 0 0 [.ref (ad 0), .int a1, .ref qa2] D ad cI cL sz μ [eI cI qa2 na2 fa2] Q := by
  refine M_meti (by decide +kernel) (Nat.le_of_ble_eq_true rfl) ?_
  intro p e s m below meth c Z ls hx hb hml hown ht hK hP0 hI hne hw hret hl
  have hl : lv_has ls 5 [(0, .ref (ad 0)), (1, .int a1), (2, .ref qa2)] := hl
  have hL0 := va_Ph hP0
  have hB0 : ¬ MA ad s.heap.size qa2 := fun z => z.elim (fun ⟨k, hk, e⟩ => hne 0 _ rfl k hk e) (fun z => absurd hL0.lt (Nat.not_lt.mpr z))
  suffices hh : ∀ (H : Heap) (locs : List Loc), MW D (MR ad cI μ) [] (MA ad s.heap.size) s H locs → W p l e (RA 2 0 0) s m #[.ref (ad 0), .int a1, .ref qa2] below meth c H locs 0 0 Z (F0 m 0 ls []) from hh _ _ hw
  intro H locs hw
  change ((nI na2) ≤ (28 : Int32) → (wp_X11_clear μ a1 ((nI na2) / (4 : Int32)) (fun (μ2 : TMem) => ∃ n2x, wpl_X11_become_27 fa2 na2 a1 (fun (μ24 : TMem) => vp_in a1 (ml 1) ∧ (wp_X11_did μ24 (μ24 1 a1.toNatClampNeg) (fun (r27 : Int32) (μ26 : TMem) => Q r27 μ26))) n2x (0 : Int32) μ2))) ∧ (¬ (nI na2) ≤ (28 : Int32) → (wp_X11_refuse μ (fun (r29 : Int32) (μ28 : TMem) => Q r29 μ28))) at h
  refine lv_aload_n hx hb dX11_become_0 rfl (lv_at hl 2 rfl) ?_
  refine lv_ifnull hx hb dX11_become_1 ?_
  refine lv_aload_n hx hb dX11_become_4 rfl (lv_at hl 2 rfl) ?_
  refine n_alenI hx hb hK (hw.arg hL0 hB0) dX11_become_5 ?_
  refine lv_bipush (v := (28 : Int32)) hx hb dX11_become_6 (by decide) ?_
  refine lv_icmp_le (tgt := 16) hx hb dX11_become_8 (by decide) (fun c1 => ?_) (fun c1 => ?_)
  · have h := h.1 c1
    refine lv_aload_n hx hb dX11_become_16 rfl (lv_at hl 0 rfl) ?_
    refine lv_iload_n hx hb dX11_become_17 rfl (lv_at hl 1 rfl) ?_
    refine lv_aload_n hx hb dX11_become_18 rfl (lv_at hl 2 rfl) ?_
    refine n_alenI hx hb hK (hw.arg hL0 hB0) dX11_become_19 ?_
    refine lv_iconst (v := (4 : Int32)) hx hb dX11_become_20 (by decide) ?_
    refine lv_idiv hx hb dX11_become_21 (by decide) ?_
    refine M_callv hw (MA.up hw.2.2.1.1) (va_runV (own := "LeastreaderModel") (As := [.int a1, .int ((nI na2) / (4 : Int32))]) (rest := []) ⟨hx, hb, hml, hown, ht⟩ (c_X11_clear μ H.size a1 ((nI na2) / (4 : Int32)) h) (cwV 2 ht (G_V q_1360 q_1362 q_28 q_56 q_1363) rfl rfl rfl ⟨rfl, hd_94⟩ ⟨Nat.le_of_ble_eq_true rfl, Nat.le_of_ble_eq_true rfl⟩) ⟨MB.blind, M_recv hK hw, MB.pre hK hI hw va_P0 ne0⟩ rfl rfl hl.1 rfl (lv_room (Nat.le_of_ble_eq_true rfl)) dX11_become_22 ⟨show 0 + 0 ≤ 0 by omega, show 0 + 0 ≤ 0 by omega⟩) (fun μ2 H locs h hw => ?_)
    refine lv_iconst (v := (0 : Int32)) hx hb dX11_become_25 (by decide) ?_
    refine lv_istore_n (lv' := [(3, .int (0 : Int32)), (0, .ref (ad 0)), (1, .int a1), (2, .ref qa2)]) hx hb dX11_become_26 rfl hl (by decide) rfl (fun ls hl => ?_)
    obtain ⟨n23, h⟩ := h
    have L2 : ∀ (v5 : Int32) (K98 : TMem → Prop), (∀ (μ6 : TMem), ∀ (H : Heap) (locs : List Loc) (ls : Array Slot), MW D (MR ad cI μ6) [] (MA ad s.heap.size) s H locs → lv_has ls 5 [(0, .ref (ad 0)), (1, .int v5)] → K98 μ6 → W p l e (RA 2 0 0) s m #[.ref (ad 0), .int a1, .ref qa2] below meth c H locs 0 0 Z (F0 m 98 ls [])) → ∀ (n : Nat), ∀ (v4 : Int32) (μ6 : TMem), ∀ (H : Heap) (locs : List Loc) (ls : Array Slot), MW D (MR ad cI μ6) [] (MA ad s.heap.size) s H locs → lv_has ls 5 [(3, .int v4), (0, .ref (ad 0)), (1, .int v5), (2, .ref qa2)] → wpl_X11_become_27 fa2 na2 v5 K98 n v4 μ6 → W p l e (RA 2 0 0) s m #[.ref (ad 0), .int a1, .ref qa2] below meth c H locs 0 0 Z (F0 m 27 ls []) := by
      intro v5 K98 hK98
      intro n
      induction n with
      | zero => intro v4 μ6 H locs ls hw hl h; exact False.elim h
      | succ n ih2 =>
        intro v4 μ6 H locs ls hw hl h
        change vp_in v5 (ml 1) ∧ (((μ6 1 v5.toNatClampNeg) ≤ v4 → (K98 μ6)) ∧ (¬ (μ6 1 v5.toNatClampNeg) ≤ v4 → (vp_in v5 (ml 3) ∧ (vp_in (((4 : Int32) * v4) + (3 : Int32)) na2 ∧ (vp_in v5 (ml 3) ∧ (∃ n11x, wpl_X11_become_58 fa2 na2 v4 v5 (fun (μ22 : TMem) => wpl_X11_become_27 fa2 na2 v5 K98 n (v4 + (1 : Int32)) μ22) n11x (0 : Int32) (tms μ6 3 v5.toNatClampNeg ((μ6 3 v5.toNatClampNeg) ||| ((fa2 (((4 : Int32) * v4) + (3 : Int32)).toNatClampNeg) <<< (v4 &&& 31)))))))))) at h
        refine lv_iload_n hx hb dX11_become_27 rfl (lv_at hl 0 rfl) ?_
        refine lv_aload_n hx hb dX11_become_28 rfl (lv_at hl 1 rfl) ?_
        refine m_get (i := 0) hx hb ht hown hK hw (by decide) (ht _ q_1313) rfl rfl dX11_become_29 ?_
        refine lv_iload_n hx hb dX11_become_32 rfl (lv_at hl 2 rfl) ?_
        obtain ⟨z7, h⟩ := h
        refine m_iald hx hb hK hw (by decide) z7 dX11_become_33 ?_
        refine lv_icmp_ge (tgt := 98) hx hb dX11_become_34 (by decide) (fun c8 => ?_) (fun c8 => ?_)
        · have h := h.1 c8
          exact hK98 μ6 H locs ls hw (lv_sub hl [1, 2] rfl) h
        have h := h.2 c8
        refine lv_aload_n hx hb dX11_become_37 rfl (lv_at hl 1 rfl) ?_
        refine m_get (i := 2) hx hb ht hown hK hw (by decide) (ht _ q_1315) rfl rfl dX11_become_38 ?_
        refine lv_iload_n hx hb dX11_become_41 rfl (lv_at hl 2 rfl) ?_
        refine lv_dup2_11 hx hb dX11_become_42 rfl rfl ?_
        obtain ⟨z9, h⟩ := h
        refine m_iald hx hb hK hw (by decide) z9 dX11_become_43 ?_
        refine lv_aload_n hx hb dX11_become_44 rfl (lv_at hl 3 rfl) ?_
        refine lv_iconst (v := (4 : Int32)) hx hb dX11_become_45 (by decide) ?_
        refine lv_iload_n hx hb dX11_become_46 rfl (lv_at hl 0 rfl) ?_
        refine lv_imul hx hb dX11_become_47 ?_
        refine lv_iconst (v := (3 : Int32)) hx hb dX11_become_48 (by decide) ?_
        refine lv_iadd hx hb dX11_become_49 ?_
        obtain ⟨z10, h⟩ := h
        refine n_iald hx hb hK (hw.arg hL0 hB0) z10 dX11_become_50 ?_
        refine lv_iload_n hx hb dX11_become_51 rfl (lv_at hl 0 rfl) ?_
        refine lv_ishl hx hb dX11_become_52 ?_
        refine lv_ior hx hb dX11_become_53 ?_
        obtain ⟨z11, h⟩ := h
        refine m_iast hx hb hK hw (by decide) z11 dX11_become_54 (fun H locs hw => ?_)
        refine lv_iconst (v := (0 : Int32)) hx hb dX11_become_55 (by decide) ?_
        refine lv_istore (lv' := [(4, .int (0 : Int32)), (3, .int v4), (0, .ref (ad 0)), (1, .int v5), (2, .ref qa2)]) hx hb dX11_become_56 hl (by decide) rfl (fun ls hl => ?_)
        obtain ⟨n21, h⟩ := h
        have L11 : ∀ (v14 : Int32) (v15 : Int32) (K92 : TMem → Prop), (∀ (μ16 : TMem), ∀ (H : Heap) (locs : List Loc) (ls : Array Slot), MW D (MR ad cI μ16) [] (MA ad s.heap.size) s H locs → lv_has ls 5 [(3, .int v14), (0, .ref (ad 0)), (1, .int v15), (2, .ref qa2)] → K92 μ16 → W p l e (RA 2 0 0) s m #[.ref (ad 0), .int a1, .ref qa2] below meth c H locs 0 0 Z (F0 m 92 ls [])) → ∀ (n : Nat), ∀ (v13 : Int32) (μ16 : TMem), ∀ (H : Heap) (locs : List Loc) (ls : Array Slot), MW D (MR ad cI μ16) [] (MA ad s.heap.size) s H locs → lv_has ls 5 [(4, .int v13), (3, .int v14), (0, .ref (ad 0)), (1, .int v15), (2, .ref qa2)] → wpl_X11_become_58 fa2 na2 v14 v15 K92 n v13 μ16 → W p l e (RA 2 0 0) s m #[.ref (ad 0), .int a1, .ref qa2] below meth c H locs 0 0 Z (F0 m 58 ls []) := by
          intro v14 v15 K92 hK92
          intro n
          induction n with
          | zero => intro v13 μ16 H locs ls hw hl h; exact False.elim h
          | succ n ih11 =>
            intro v13 μ16 H locs ls hw hl h
            change ((3 : Int32) ≤ v13 → (K92 μ16)) ∧ (¬ (3 : Int32) ≤ v13 → (wp_X11_key v15 v14 v13 (fun (r18 : Int32) => vp_in (((4 : Int32) * v14) + v13) na2 ∧ (vp_in r18 (ml 4) ∧ (wpl_X11_become_58 fa2 na2 v14 v15 K92 n (v13 + (1 : Int32)) (tms μ16 4 r18.toNatClampNeg ((1 : Int32) <<< ((fa2 (((4 : Int32) * v14) + v13).toNatClampNeg) &&& 31)))))))) at h
            refine lv_iload hx hb dX11_become_58 (lv_at hl 0 rfl) ?_
            refine lv_iconst (v := (3 : Int32)) hx hb dX11_become_60 (by decide) ?_
            refine lv_icmp_ge (tgt := 92) hx hb dX11_become_61 (by decide) (fun c17 => ?_) (fun c17 => ?_)
            · have h := h.1 c17
              exact hK92 μ16 H locs ls hw (lv_sub hl [1, 2, 3, 4] rfl) h
            have h := h.2 c17
            refine lv_aload_n hx hb dX11_become_64 rfl (lv_at hl 2 rfl) ?_
            refine m_get (i := 3) hx hb ht hown hK hw (by decide) (ht _ q_1316) rfl rfl dX11_become_65 ?_
            refine lv_iload_n hx hb dX11_become_68 rfl (lv_at hl 3 rfl) ?_
            refine lv_iload_n hx hb dX11_become_69 rfl (lv_at hl 1 rfl) ?_
            refine lv_iload hx hb dX11_become_70 (lv_at hl 0 rfl) ?_
            refine P_calli (va_runS (own := "LeastreaderModel") (As := [.int v15, .int v14, .int v13]) (rest := [.ref (ad 4)]) ⟨hx, hb, hml, hown, ht⟩ (c_X11_key v15 v14 v13 h) (va_cwS 3 ht (G_S q_1356 q_1357 q_56 q_1358) rfl rfl rfl hd_79 ⟨Nat.le_of_ble_eq_true rfl, Nat.le_of_ble_eq_true rfl⟩) ⟨PM_blind, PM_pre⟩ rfl rfl hl.1 rfl (lv_room (Nat.le_of_ble_eq_true rfl)) dX11_become_72 ⟨show 0 + 0 ≤ 0 by omega, show 0 + 0 ≤ 0 by omega⟩) (fun r18 h => ?_)
            refine lv_iconst (v := (1 : Int32)) hx hb dX11_become_75 (by decide) ?_
            refine lv_aload_n hx hb dX11_become_76 rfl (lv_at hl 4 rfl) ?_
            refine lv_iconst (v := (4 : Int32)) hx hb dX11_become_77 (by decide) ?_
            refine lv_iload_n hx hb dX11_become_78 rfl (lv_at hl 1 rfl) ?_
            refine lv_imul hx hb dX11_become_79 ?_
            refine lv_iload hx hb dX11_become_80 (lv_at hl 0 rfl) ?_
            refine lv_iadd hx hb dX11_become_82 ?_
            obtain ⟨z19, h⟩ := h
            refine n_iald hx hb hK (hw.arg hL0 hB0) z19 dX11_become_83 ?_
            refine lv_ishl hx hb dX11_become_84 ?_
            obtain ⟨z20, h⟩ := h
            refine m_iast hx hb hK hw (by decide) z20 dX11_become_85 (fun H locs hw => ?_)
            refine lv_iinc (v := (v13 + (1 : Int32))) (lv' := [(4, .int (v13 + (1 : Int32))), (3, .int v14), (0, .ref (ad 0)), (1, .int v15), (2, .ref qa2)]) hx hb dX11_become_86 hl (k := 0) rfl rfl (by decide) rfl (fun ls hl => ?_)
            refine lv_goto (tgt := 58) hx hb dX11_become_89 (by decide) ?_
            exact ih11 (v13 + (1 : Int32)) (tms μ16 4 r18.toNatClampNeg ((1 : Int32) <<< ((fa2 (((4 : Int32) * v14) + v13).toNatClampNeg) &&& 31))) H locs ls hw (lv_sub hl [0, 1, 2, 3, 4] rfl) h
        refine L11 v4 v5 _ ?_ n21 (0 : Int32) (tms μ6 3 v5.toNatClampNeg ((μ6 3 v5.toNatClampNeg) ||| ((fa2 (((4 : Int32) * v4) + (3 : Int32)).toNatClampNeg) <<< (v4 &&& 31)))) H locs ls hw (lv_sub hl [0, 1, 2, 3, 4] rfl) h
        intro μ22 H locs ls hw hl h
        refine lv_iinc (v := (v4 + (1 : Int32))) (lv' := [(3, .int (v4 + (1 : Int32))), (0, .ref (ad 0)), (1, .int v5), (2, .ref qa2)]) hx hb dX11_become_92 hl (k := 0) rfl rfl (by decide) rfl (fun ls hl => ?_)
        refine lv_goto (tgt := 27) hx hb dX11_become_95 (by decide) ?_
        exact ih2 (v4 + (1 : Int32)) μ22 H locs ls hw (lv_sub hl [0, 1, 2, 3] rfl) h
    refine L2 a1 _ ?_ n23 (0 : Int32) μ2 H locs ls hw (lv_sub hl [0, 1, 2, 3] rfl) h
    intro μ24 H locs ls hw hl h
    refine lv_aload_n hx hb dX11_become_98 rfl (lv_at hl 0 rfl) ?_
    refine lv_aload_n hx hb dX11_become_99 rfl (lv_at hl 0 rfl) ?_
    refine m_get (i := 0) hx hb ht hown hK hw (by decide) (ht _ q_1313) rfl rfl dX11_become_100 ?_
    refine lv_iload_n hx hb dX11_become_103 rfl (lv_at hl 1 rfl) ?_
    obtain ⟨z25, h⟩ := h
    refine m_iald hx hb hK hw (by decide) z25 dX11_become_104 ?_
    refine M_calli hw (MA.up hw.2.2.1.1) (va_runV (own := "LeastreaderModel") (As := [.int (μ24 1 a1.toNatClampNeg)]) (rest := []) ⟨hx, hb, hml, hown, ht⟩ (c_X11_did μ24 H.size (μ24 1 a1.toNatClampNeg) h) (cwV 1 ht (G_V q_1364 q_1366 q_29 q_56 q_1367) rfl rfl rfl ⟨rfl, hd_95⟩ ⟨Nat.le_of_ble_eq_true rfl, Nat.le_of_ble_eq_true rfl⟩) ⟨MB.blind, M_recv hK hw, MB.pre hK hI hw va_P0 ne0⟩ rfl rfl hl.1 rfl (lv_room (Nat.le_of_ble_eq_true rfl)) dX11_become_105 ⟨show 0 + 0 ≤ 0 by omega, show 0 + 0 ≤ 0 by omega⟩) (fun r27 μ26 H locs h hw => ?_)
    exact hret H locs ls 108 _ _ _ _ _ hw h rfl (show 0 ≤ 0 by omega) (show 0 ≤ 0 by omega) dX11_become_108
  have h := h.2 c1
  refine lv_aload_n hx hb dX11_become_11 rfl (lv_at hl 0 rfl) ?_
  refine M_calli hw (MA.up hw.2.2.1.1) (va_runV (own := "LeastreaderModel") (As := []) (rest := []) ⟨hx, hb, hml, hown, ht⟩ (c_X11_refuse μ H.size h) (cwV 0 ht (G_V q_1429 q_1431 q_35 q_56 q_1432) rfl rfl rfl ⟨rfl, hd_101⟩ ⟨Nat.le_of_ble_eq_true rfl, Nat.le_of_ble_eq_true rfl⟩) ⟨MB.blind, M_recv hK hw, MB.pre hK hI hw va_P0 ne0⟩ rfl rfl hl.1 rfl (lv_room (Nat.le_of_ble_eq_true rfl)) dX11_become_12 ⟨show 0 + 0 ≤ 0 by omega, show 0 + 0 ≤ 0 by omega⟩) (fun r29 μ28 H locs h hw => ?_)
  exact hret H locs ls 15 _ _ _ _ _ hw h rfl (show 0 ≤ 0 by omega) (show 0 ≤ 0 by omega) dX11_become_15
def wp_X11_become_n (μ : TMem) (a1 : Int32) (Q : Int32 → TMem → Prop) : Prop :=
  wp_X11_refuse μ (fun (r2 : Int32) (μ1 : TMem) => Q r2 μ1)
set_option maxHeartbeats 4000000 in
set_option maxRecDepth 100000 in
theorem c_X11_become_n {l : Launch} {D : va_G} {ad : Nat → Nat} {cI cL : ClassId}  (μ : TMem) (sz : Nat) (a1 : Int32)  {Q : Int32 → TMem → Prop} (h : wp_X11_become_n μ a1 Q) : MMi l yX11_become (.code yX11_become cX11_become 5 (Option.some Jvm.ClassFile.FieldType.int)) 2 0 0 [.ref (ad 0), .int a1, .null] D ad cI cL sz μ [] Q := by
  refine M_meti (by decide +kernel) (Nat.le_of_ble_eq_true rfl) ?_
  intro p e s m below meth c Z ls hx hb hml hown ht hK hP0 hI hne hw hret hl
  have hl : lv_has ls 5 [(0, .ref (ad 0)), (1, .int a1), (2, .null)] := hl
  suffices hh : ∀ (H : Heap) (locs : List Loc), MW D (MR ad cI μ) [] (MA ad s.heap.size) s H locs → W p l e (RA 2 0 0) s m #[.ref (ad 0), .int a1, .null] below meth c H locs 0 0 Z (F0 m 0 ls []) from hh _ _ hw
  intro H locs hw
  change wp_X11_refuse μ (fun (r2 : Int32) (μ1 : TMem) => Q r2 μ1) at h
  refine lv_aload_nN hx hb dX11_become_0 rfl (lv_at hl 2 rfl) ?_
  refine lv_ifnullN (tgt := 11) hx hb dX11_become_1 (by decide) ?_
  refine lv_aload_n hx hb dX11_become_11 rfl (lv_at hl 0 rfl) ?_
  refine M_calli hw (MA.up hw.2.2.1.1) (va_runV (own := "LeastreaderModel") (As := []) (rest := []) ⟨hx, hb, hml, hown, ht⟩ (c_X11_refuse μ H.size h) (cwV 0 ht (G_V q_1429 q_1431 q_35 q_56 q_1432) rfl rfl rfl ⟨rfl, hd_101⟩ ⟨Nat.le_of_ble_eq_true rfl, Nat.le_of_ble_eq_true rfl⟩) ⟨MB.blind, M_recv hK hw, MB.pre hK hI hw va_P0 ne0⟩ rfl rfl hl.1 rfl (lv_room (Nat.le_of_ble_eq_true rfl)) dX11_become_12 ⟨show 0 + 0 ≤ 0 by omega, show 0 + 0 ≤ 0 by omega⟩) (fun r2 μ1 H locs h hw => ?_)
  exact hret H locs ls 15 _ _ _ _ _ hw h rfl (show 0 ≤ 0 by omega) (show 0 ≤ 0 by omega) dX11_become_15
def wp_X11_make (μ : TMem) (a1 : Int32) (a2 : Int32) (a3 : Int32) (Q : Int32 → TMem → Prop) : Prop :=
  wp_X11_isOne a1 (fun (r1 : Int32) => ∀ J2 : Int32 → Prop, (∀ (j3 : Int32), (wp_X11_isThrown μ j3 (1 : Int32) (fun (r5 : Int32) (μ4 : TMem) => (r5 = 0 → (∀ J7 : Int32 → Prop, (∀ (j8 : Int32), (wp_X11_found μ4 a1 j8 (fun (r18 : Option AI) => (r18 = none → (wp_X11_become_n μ4 a3 (fun (r15 : Int32) (μ14 : TMem) => Q r15 μ14))) ∧ (∀ (n12 : Nat) (f13 : Nat → Int32), r18 = some (n12, f13) → (wp_X11_become μ4 a3 n12 f13 (fun (r17 : Int32) (μ16 : TMem) => Q r17 μ16))))) → J7 j8) → ((a2 = 0 → (J7 (3 : Int32))) ∧ (¬ a2 = 0 → (J7 (0 : Int32)))))) ∧ (¬ r5 = 0 → (Q (0 : Int32) μ4)))) → J2 j3) → ((r1 = 0 → (J2 (0 : Int32))) ∧ (¬ r1 = 0 → (wp_X11_isOne a3 (fun (r21 : Int32) => (r21 = 0 → (J2 (0 : Int32))) ∧ (¬ r21 = 0 → (J2 (1 : Int32))))))))
set_option maxHeartbeats 4000000 in
set_option maxRecDepth 100000 in
theorem c_X11_make {l : Launch} {D : va_G} {ad : Nat → Nat} {cI cL : ClassId}  (μ : TMem) (sz : Nat) (a1 : Int32) (a2 : Int32) (a3 : Int32)  {Q : Int32 → TMem → Prop} (h : wp_X11_make μ a1 a2 a3 Q) : MMi l yX11_make (.code yX11_make cX11_make 4 (Option.some Jvm.ClassFile.FieldType.int)) 4 41 1685 [.ref (ad 0), .int a1, .int a2, .int a3] D ad cI cL sz μ [] Q := by
  refine M_meti (by decide +kernel) (Nat.le_of_ble_eq_true rfl) ?_
  intro p e s m below meth c Z ls hx hb hml hown ht hK hP0 hI hne hw hret hl
  have hl : lv_has ls 4 [(0, .ref (ad 0)), (1, .int a1), (2, .int a2), (3, .int a3)] := hl
  suffices hh : ∀ (H : Heap) (locs : List Loc), MW D (MR ad cI μ) [] (MA ad s.heap.size) s H locs → W p l e (RA 4 41 1685) s m #[.ref (ad 0), .int a1, .int a2, .int a3] below meth c H locs 0 0 Z (F0 m 0 ls []) from hh _ _ hw
  intro H locs hw
  change wp_X11_isOne a1 (fun (r1 : Int32) => ∀ J2 : Int32 → Prop, (∀ (j3 : Int32), (wp_X11_isThrown μ j3 (1 : Int32) (fun (r5 : Int32) (μ4 : TMem) => (r5 = 0 → (∀ J7 : Int32 → Prop, (∀ (j8 : Int32), (wp_X11_found μ4 a1 j8 (fun (r18 : Option AI) => (r18 = none → (wp_X11_become_n μ4 a3 (fun (r15 : Int32) (μ14 : TMem) => Q r15 μ14))) ∧ (∀ (n12 : Nat) (f13 : Nat → Int32), r18 = some (n12, f13) → (wp_X11_become μ4 a3 n12 f13 (fun (r17 : Int32) (μ16 : TMem) => Q r17 μ16))))) → J7 j8) → ((a2 = 0 → (J7 (3 : Int32))) ∧ (¬ a2 = 0 → (J7 (0 : Int32)))))) ∧ (¬ r5 = 0 → (Q (0 : Int32) μ4)))) → J2 j3) → ((r1 = 0 → (J2 (0 : Int32))) ∧ (¬ r1 = 0 → (wp_X11_isOne a3 (fun (r21 : Int32) => (r21 = 0 → (J2 (0 : Int32))) ∧ (¬ r21 = 0 → (J2 (1 : Int32)))))))) at h
  refine lv_aload_n hx hb dX11_make_0 rfl (lv_at hl 0 rfl) ?_
  refine lv_iload_n hx hb dX11_make_1 rfl (lv_at hl 1 rfl) ?_
  refine P_calli (va_runS (own := "LeastreaderModel") (As := [.int a1]) (rest := [.ref (ad 0)]) ⟨hx, hb, hml, hown, ht⟩ (c_X11_isOne a1 h) (va_cwS 1 ht (G_S q_1342 q_1343 q_56 q_1344) rfl rfl rfl hd_91 ⟨Nat.le_of_ble_eq_true rfl, Nat.le_of_ble_eq_true rfl⟩) ⟨PM_blind, PM_pre⟩ rfl rfl hl.1 rfl (lv_room (Nat.le_of_ble_eq_true rfl)) dX11_make_2 ⟨show 0 + 0 ≤ 41 by omega, show 0 + 0 ≤ 1685 by omega⟩) (fun r1 h => ?_)
  have h := h (fun (j3 : Int32) => ∀ (H : Heap) (locs : List Loc) (ls : Array Slot), MW D (MR ad cI μ) [] (MA ad s.heap.size) s H locs → lv_has ls 4 [(0, .ref (ad 0)), (1, .int a1), (2, .int a2), (3, .int a3)] → W p l e (RA 4 41 1685) s m #[.ref (ad 0), .int a1, .int a2, .int a3] below meth c H locs 0 0 Z (F0 m 20 ls [.int j3, .ref (ad 0)])) (fun j3 h H locs ls hw hl => by
    refine lv_iconst (v := (1 : Int32)) hx hb dX11_make_20 (by decide) ?_
    refine M_calli hw (MA.up hw.2.2.1.1) (va_runV (own := "LeastreaderModel") (As := [.int j3, .int (1 : Int32)]) (rest := []) ⟨hx, hb, hml, hown, ht⟩ (c_X11_isThrown μ H.size j3 (1 : Int32) h) (cwV 2 ht (G_V q_1348 q_1350 q_26 q_56 q_1351) rfl rfl rfl ⟨rfl, hd_92⟩ ⟨Nat.le_of_ble_eq_true rfl, Nat.le_of_ble_eq_true rfl⟩) ⟨MB.blind, M_recv hK hw, MB.pre hK hI hw va_P0 ne0⟩ rfl rfl hl.1 rfl (lv_room (Nat.le_of_ble_eq_true rfl)) dX11_make_21 ⟨show 0 + 0 ≤ 41 by omega, show 0 + 0 ≤ 1685 by omega⟩) (fun r5 μ4 H locs h hw => ?_)
    refine lv_if_eq (tgt := 31) hx hb dX11_make_24 (by decide) (fun c6 => ?_) (fun c6 => ?_)
    · have h := h.1 c6
      refine lv_aload_n hx hb dX11_make_31 rfl (lv_at hl 0 rfl) ?_
      refine lv_iload_n hx hb dX11_make_32 rfl (lv_at hl 3 rfl) ?_
      refine lv_aload_n hx hb dX11_make_33 rfl (lv_at hl 0 rfl) ?_
      refine lv_iload_n hx hb dX11_make_34 rfl (lv_at hl 1 rfl) ?_
      refine lv_iload_n hx hb dX11_make_35 rfl (lv_at hl 2 rfl) ?_
      have h := h (fun (j8 : Int32) => ∀ (H : Heap) (locs : List Loc) (ls : Array Slot), MW D (MR ad cI μ4) [] (MA ad s.heap.size) s H locs → lv_has ls 4 [] → W p l e (RA 4 41 1685) s m #[.ref (ad 0), .int a1, .int a2, .int a3] below meth c H locs 0 0 Z (F0 m 44 ls [.int j8, .int a1, .ref (ad 0), .int a3, .ref (ad 0)])) (fun j8 h H locs ls hw hl => by
        refine M_callA hw (MA.up hw.2.2.1.1) (va_runV (own := "LeastreaderModel") (As := [.int a1, .int j8]) (rest := [.int a3, .ref (ad 0)]) ⟨hx, hb, hml, hown, ht⟩ (c_X11_found μ4 H.size a1 j8 h) (cwV 2 ht (G_V q_1448 q_1450 q_36 q_56 q_1451) rfl rfl rfl ⟨rfl, hd_103⟩ ⟨Nat.le_of_ble_eq_true rfl, Nat.le_of_ble_eq_true rfl⟩) ⟨MB.blind, M_recv hK hw, MB.pre hK hI hw va_P0 ne0⟩ rfl rfl hl.1 rfl (lv_room (Nat.le_of_ble_eq_true rfl)) dX11_make_44 ⟨show 0 + 41 ≤ 41 by omega, show 0 + 1685 ≤ 1685 by omega⟩) (fun μ9 H locs h hw => ?_) (fun q11 n12 f13 μ9 H locs hq11 h hw => ?_)
        · skip
          obtain ⟨e10, h⟩ := h
          rw [e10] at hw
          have h := h.1 rfl
          refine M_calli hw (MA.up hw.2.2.1.1) (va_runV (own := "LeastreaderModel") (As := [.int a3, .null]) (rest := []) ⟨hx, hb, hml, hown, ht⟩ (c_X11_become_n μ4 H.size a3 h) (cwV 2 ht (G_V q_1475 q_1477 q_39 q_56 q_1478) rfl rfl rfl ⟨rfl, hd_104⟩ ⟨Nat.le_of_ble_eq_true rfl, Nat.le_of_ble_eq_true rfl⟩) ⟨MB.blind, M_recv hK hw, MB.pre hK hI hw va_P0 ne0⟩ rfl rfl hl.1 rfl (lv_room (Nat.le_of_ble_eq_true rfl)) dX11_make_47 ⟨show 41 + 0 ≤ 41 by omega, show 1685 + 0 ≤ 1685 by omega⟩) (fun r15 μ14 H locs h hw => ?_)
          exact hret H locs ls 50 _ _ _ _ _ hw h rfl (show 41 ≤ 41 by omega) (show 1685 ≤ 1685 by omega) dX11_make_50
        obtain ⟨e10, h⟩ := h
        rw [e10] at hw
        have h := h.2 _ _ rfl
        have hw : MW D (MR ad cI μ4) [eI cI q11 n12 f13] (MA ad s.heap.size) s H locs := hw
        refine M_calli hw (MA.up hw.2.2.1.1) (va_runV (own := "LeastreaderModel") (As := [.int a3, .ref q11]) (rest := []) ⟨hx, hb, hml, hown, ht⟩ (c_X11_become q11 μ4 H.size a3 n12 f13 h) (cwV 2 ht (G_V q_1475 q_1477 q_39 q_56 q_1478) rfl rfl rfl ⟨rfl, hd_104⟩ ⟨Nat.le_of_ble_eq_true rfl, Nat.le_of_ble_eq_true rfl⟩) ⟨MB.blind, M_recv hK hw, MB.pre hK hI hw (va_Pc2 (hw.n (j := 0) rfl) va_P0) (neC (hw.ne (j := 0) rfl) ne0)⟩ rfl rfl hl.1 rfl (lv_room (Nat.le_of_ble_eq_true rfl)) dX11_make_47 ⟨show 41 + 0 ≤ 41 by omega, show 1685 + 0 ≤ 1685 by omega⟩) (fun r17 μ16 H locs h hw => ?_)
        exact hret H locs ls 50 _ _ _ _ _ hw h rfl (show 41 ≤ 41 by omega) (show 1685 ≤ 1685 by omega) dX11_make_50)
      refine lv_if_eq (tgt := 43) hx hb dX11_make_36 (by decide) (fun c19 => ?_) (fun c19 => ?_)
      · have h := h.1 c19
        refine lv_iconst (v := (3 : Int32)) hx hb dX11_make_43 (by decide) ?_
        exact h H locs ls hw (lv_sub hl [] rfl)
      have h := h.2 c19
      refine lv_iconst (v := (0 : Int32)) hx hb dX11_make_39 (by decide) ?_
      refine lv_goto (tgt := 44) hx hb dX11_make_40 (by decide) ?_
      exact h H locs ls hw (lv_sub hl [] rfl)
    have h := h.2 c6
    refine lv_iconst (v := (0 : Int32)) hx hb dX11_make_27 (by decide) ?_
    refine lv_goto (tgt := 50) hx hb dX11_make_28 (by decide) ?_
    exact hret H locs ls 50 _ _ _ _ _ hw h rfl (show 0 ≤ 41 by omega) (show 0 ≤ 1685 by omega) dX11_make_50)
  refine lv_if_eq (tgt := 19) hx hb dX11_make_5 (by decide) (fun c20 => ?_) (fun c20 => ?_)
  · have h := h.1 c20
    refine lv_iconst (v := (0 : Int32)) hx hb dX11_make_19 (by decide) ?_
    exact h H locs ls hw (lv_sub hl [0, 1, 2, 3] rfl)
  have h := h.2 c20
  refine lv_iload_n hx hb dX11_make_8 rfl (lv_at hl 3 rfl) ?_
  refine P_calli (va_runS (own := "LeastreaderModel") (As := [.int a3]) (rest := [.ref (ad 0)]) ⟨hx, hb, hml, hown, ht⟩ (c_X11_isOne a3 h) (va_cwS 1 ht (G_S q_1342 q_1343 q_56 q_1344) rfl rfl rfl hd_91 ⟨Nat.le_of_ble_eq_true rfl, Nat.le_of_ble_eq_true rfl⟩) ⟨PM_blind, PM_pre⟩ rfl rfl hl.1 rfl (lv_room (Nat.le_of_ble_eq_true rfl)) dX11_make_9 ⟨show 0 + 0 ≤ 41 by omega, show 0 + 0 ≤ 1685 by omega⟩) (fun r21 h => ?_)
  refine lv_if_eq (tgt := 19) hx hb dX11_make_12 (by decide) (fun c22 => ?_) (fun c22 => ?_)
  · have h := h.1 c22
    refine lv_iconst (v := (0 : Int32)) hx hb dX11_make_19 (by decide) ?_
    exact h H locs ls hw (lv_sub hl [0, 1, 2, 3] rfl)
  have h := h.2 c22
  refine lv_iconst (v := (1 : Int32)) hx hb dX11_make_15 (by decide) ?_
  refine lv_goto (tgt := 20) hx hb dX11_make_16 (by decide) ?_
  exact h H locs ls hw (lv_sub hl [0, 1, 2, 3] rfl)
def wp_X11_combine (μ : TMem) (a1 : Int32) (a2 : Int32) (a3 : Int32) (a4 : Int32) (Q : Int32 → TMem → Prop) : Prop :=
  wp_X11_isOne a1 (fun (r1 : Int32) => ∀ J2 : Int32 → Prop, (∀ (j3 : Int32), (wp_X11_isIn a3 (0 : Int32) (3 : Int32) (fun (r4 : Int32) => wp_X11_isThrown μ j3 r4 (fun (r6 : Int32) (μ5 : TMem) => (r6 = 0 → (wp_X11_both μ5 a1 a2 a3 (fun (r29 : Option AI) => (r29 = none → (wp_X11_least_n (fun (r20 : Option AI) => (r20 = none → (wp_X11_become_n μ5 a4 (fun (r17 : Int32) (μ16 : TMem) => Q r17 μ16))) ∧ (∀ (n14 : Nat) (f15 : Nat → Int32), r20 = some (n14, f15) → (wp_X11_become μ5 a4 n14 f15 (fun (r19 : Int32) (μ18 : TMem) => Q r19 μ18)))))) ∧ (∀ (n11 : Nat) (f12 : Nat → Int32), r29 = some (n11, f12) → (wp_X11_least n11 f12 (fun (r28 : Option AI) => (r28 = none → (wp_X11_become_n μ5 a4 (fun (r25 : Int32) (μ24 : TMem) => Q r25 μ24))) ∧ (∀ (n22 : Nat) (f23 : Nat → Int32), r28 = some (n22, f23) → (wp_X11_become μ5 a4 n22 f23 (fun (r27 : Int32) (μ26 : TMem) => Q r27 μ26))))))))) ∧ (¬ r6 = 0 → (Q (0 : Int32) μ5))))) → J2 j3) → ((r1 = 0 → (J2 (0 : Int32))) ∧ (¬ r1 = 0 → (wp_X11_isOne a2 (fun (r31 : Int32) => (r31 = 0 → (J2 (0 : Int32))) ∧ (¬ r31 = 0 → (wp_X11_isOne a4 (fun (r33 : Int32) => (r33 = 0 → (J2 (0 : Int32))) ∧ (¬ r33 = 0 → (J2 (1 : Int32)))))))))))
set_option maxHeartbeats 4000000 in
set_option maxRecDepth 100000 in
theorem c_X11_combine {l : Launch} {D : va_G} {ad : Nat → Nat} {cI cL : ClassId}  (μ : TMem) (sz : Nat) (a1 : Int32) (a2 : Int32) (a3 : Int32) (a4 : Int32)  {Q : Int32 → TMem → Prop} (h : wp_X11_combine μ a1 a2 a3 a4 Q) : MMi l yX11_combine (.code yX11_combine cX11_combine 5 (Option.some Jvm.ClassFile.FieldType.int)) 4 47 2726 [.ref (ad 0), .int a1, .int a2, .int a3, .int a4] D ad cI cL sz μ [] Q := by
  refine M_meti (by decide +kernel) (Nat.le_of_ble_eq_true rfl) ?_
  intro p e s m below meth c Z ls hx hb hml hown ht hK hP0 hI hne hw hret hl
  have hl : lv_has ls 5 [(0, .ref (ad 0)), (1, .int a1), (2, .int a2), (3, .int a3), (4, .int a4)] := hl
  suffices hh : ∀ (H : Heap) (locs : List Loc), MW D (MR ad cI μ) [] (MA ad s.heap.size) s H locs → W p l e (RA 4 47 2726) s m #[.ref (ad 0), .int a1, .int a2, .int a3, .int a4] below meth c H locs 0 0 Z (F0 m 0 ls []) from hh _ _ hw
  intro H locs hw
  change wp_X11_isOne a1 (fun (r1 : Int32) => ∀ J2 : Int32 → Prop, (∀ (j3 : Int32), (wp_X11_isIn a3 (0 : Int32) (3 : Int32) (fun (r4 : Int32) => wp_X11_isThrown μ j3 r4 (fun (r6 : Int32) (μ5 : TMem) => (r6 = 0 → (wp_X11_both μ5 a1 a2 a3 (fun (r29 : Option AI) => (r29 = none → (wp_X11_least_n (fun (r20 : Option AI) => (r20 = none → (wp_X11_become_n μ5 a4 (fun (r17 : Int32) (μ16 : TMem) => Q r17 μ16))) ∧ (∀ (n14 : Nat) (f15 : Nat → Int32), r20 = some (n14, f15) → (wp_X11_become μ5 a4 n14 f15 (fun (r19 : Int32) (μ18 : TMem) => Q r19 μ18)))))) ∧ (∀ (n11 : Nat) (f12 : Nat → Int32), r29 = some (n11, f12) → (wp_X11_least n11 f12 (fun (r28 : Option AI) => (r28 = none → (wp_X11_become_n μ5 a4 (fun (r25 : Int32) (μ24 : TMem) => Q r25 μ24))) ∧ (∀ (n22 : Nat) (f23 : Nat → Int32), r28 = some (n22, f23) → (wp_X11_become μ5 a4 n22 f23 (fun (r27 : Int32) (μ26 : TMem) => Q r27 μ26))))))))) ∧ (¬ r6 = 0 → (Q (0 : Int32) μ5))))) → J2 j3) → ((r1 = 0 → (J2 (0 : Int32))) ∧ (¬ r1 = 0 → (wp_X11_isOne a2 (fun (r31 : Int32) => (r31 = 0 → (J2 (0 : Int32))) ∧ (¬ r31 = 0 → (wp_X11_isOne a4 (fun (r33 : Int32) => (r33 = 0 → (J2 (0 : Int32))) ∧ (¬ r33 = 0 → (J2 (1 : Int32))))))))))) at h
  refine lv_aload_n hx hb dX11_combine_0 rfl (lv_at hl 0 rfl) ?_
  refine lv_iload_n hx hb dX11_combine_1 rfl (lv_at hl 1 rfl) ?_
  refine P_calli (va_runS (own := "LeastreaderModel") (As := [.int a1]) (rest := [.ref (ad 0)]) ⟨hx, hb, hml, hown, ht⟩ (c_X11_isOne a1 h) (va_cwS 1 ht (G_S q_1342 q_1343 q_56 q_1344) rfl rfl rfl hd_91 ⟨Nat.le_of_ble_eq_true rfl, Nat.le_of_ble_eq_true rfl⟩) ⟨PM_blind, PM_pre⟩ rfl rfl hl.1 rfl (lv_room (Nat.le_of_ble_eq_true rfl)) dX11_combine_2 ⟨show 0 + 0 ≤ 47 by omega, show 0 + 0 ≤ 2726 by omega⟩) (fun r1 h => ?_)
  have h := h (fun (j3 : Int32) => ∀ (H : Heap) (locs : List Loc) (ls : Array Slot), MW D (MR ad cI μ) [] (MA ad s.heap.size) s H locs → lv_has ls 5 [(0, .ref (ad 0)), (1, .int a1), (2, .int a2), (3, .int a3), (4, .int a4)] → W p l e (RA 4 47 2726) s m #[.ref (ad 0), .int a1, .int a2, .int a3, .int a4] below meth c H locs 0 0 Z (F0 m 28 ls [.int j3, .ref (ad 0)])) (fun j3 h H locs ls hw hl => by
    refine lv_iload_n hx hb dX11_combine_28 rfl (lv_at hl 3 rfl) ?_
    refine lv_iconst (v := (0 : Int32)) hx hb dX11_combine_29 (by decide) ?_
    refine lv_iconst (v := (3 : Int32)) hx hb dX11_combine_30 (by decide) ?_
    refine P_calli (va_runS (own := "LeastreaderModel") (As := [.int a3, .int (0 : Int32), .int (3 : Int32)]) (rest := [.int j3, .ref (ad 0)]) ⟨hx, hb, hml, hown, ht⟩ (c_X11_isIn a3 (0 : Int32) (3 : Int32) h) (va_cwS 3 ht (G_S q_1345 q_1346 q_56 q_1347) rfl rfl rfl hd_78 ⟨Nat.le_of_ble_eq_true rfl, Nat.le_of_ble_eq_true rfl⟩) ⟨PM_blind, PM_pre⟩ rfl rfl hl.1 rfl (lv_room (Nat.le_of_ble_eq_true rfl)) dX11_combine_31 ⟨show 0 + 0 ≤ 47 by omega, show 0 + 0 ≤ 2726 by omega⟩) (fun r4 h => ?_)
    refine M_calli hw (MA.up hw.2.2.1.1) (va_runV (own := "LeastreaderModel") (As := [.int j3, .int r4]) (rest := []) ⟨hx, hb, hml, hown, ht⟩ (c_X11_isThrown μ H.size j3 r4 h) (cwV 2 ht (G_V q_1348 q_1350 q_26 q_56 q_1351) rfl rfl rfl ⟨rfl, hd_92⟩ ⟨Nat.le_of_ble_eq_true rfl, Nat.le_of_ble_eq_true rfl⟩) ⟨MB.blind, M_recv hK hw, MB.pre hK hI hw va_P0 ne0⟩ rfl rfl hl.1 rfl (lv_room (Nat.le_of_ble_eq_true rfl)) dX11_combine_34 ⟨show 0 + 0 ≤ 47 by omega, show 0 + 0 ≤ 2726 by omega⟩) (fun r6 μ5 H locs h hw => ?_)
    refine lv_if_eq (tgt := 44) hx hb dX11_combine_37 (by decide) (fun c7 => ?_) (fun c7 => ?_)
    · have h := h.1 c7
      refine lv_aload_n hx hb dX11_combine_44 rfl (lv_at hl 0 rfl) ?_
      refine lv_iload hx hb dX11_combine_45 (lv_at hl 4 rfl) ?_
      refine lv_aload_n hx hb dX11_combine_47 rfl (lv_at hl 0 rfl) ?_
      refine lv_iload_n hx hb dX11_combine_48 rfl (lv_at hl 1 rfl) ?_
      refine lv_iload_n hx hb dX11_combine_49 rfl (lv_at hl 2 rfl) ?_
      refine lv_iload_n hx hb dX11_combine_50 rfl (lv_at hl 3 rfl) ?_
      refine M_callA hw (MA.up hw.2.2.1.1) (va_runV (own := "LeastreaderModel") (As := [.int a1, .int a2, .int a3]) (rest := [.int a4, .ref (ad 0)]) ⟨hx, hb, hml, hown, ht⟩ (c_X11_both μ5 H.size a1 a2 a3 h) (cwV 3 ht (G_V q_1483 q_1485 q_40 q_56 q_1486) rfl rfl rfl ⟨rfl, hd_105⟩ ⟨Nat.le_of_ble_eq_true rfl, Nat.le_of_ble_eq_true rfl⟩) ⟨MB.blind, M_recv hK hw, MB.pre hK hI hw va_P0 ne0⟩ rfl rfl hl.1 rfl (lv_room (Nat.le_of_ble_eq_true rfl)) dX11_combine_51 ⟨show 0 + 10 ≤ 47 by omega, show 0 + 1350 ≤ 2726 by omega⟩) (fun μ8 H locs h hw => ?_) (fun q10 n11 f12 μ8 H locs hq10 h hw => ?_)
      · skip
        obtain ⟨e9, h⟩ := h
        rw [e9] at hw
        have h := h.1 rfl
        refine S_callA hw (va_runS (own := "LeastreaderModel") (As := [.null]) (rest := [.int a4, .ref (ad 0)]) ⟨hx, hb, hml, hown, ht⟩ (c_X11_least_n H.size h) (va_cwS 1 ht (G_S q_1466 q_1467 q_56 q_1468) rfl rfl rfl hd_87 ⟨Nat.le_of_ble_eq_true rfl, Nat.le_of_ble_eq_true rfl⟩) ⟨SB.blind, SB.pre hK va_P0⟩ rfl rfl hl.1 rfl (lv_room (Nat.le_of_ble_eq_true rfl)) dX11_combine_54 ⟨show 10 + 0 ≤ 47 by omega, show 1350 + 0 ≤ 2726 by omega⟩) (fun H locs h hw => ?_) (fun q13 n14 f15 H locs hq13 h hw => ?_)
        · skip
          have h := h.1 rfl
          refine M_calli hw (MA.up hw.2.2.1.1) (va_runV (own := "LeastreaderModel") (As := [.int a4, .null]) (rest := []) ⟨hx, hb, hml, hown, ht⟩ (c_X11_become_n μ5 H.size a4 h) (cwV 2 ht (G_V q_1475 q_1477 q_39 q_56 q_1478) rfl rfl rfl ⟨rfl, hd_104⟩ ⟨Nat.le_of_ble_eq_true rfl, Nat.le_of_ble_eq_true rfl⟩) ⟨MB.blind, M_recv hK hw, MB.pre hK hI hw va_P0 ne0⟩ rfl rfl hl.1 rfl (lv_room (Nat.le_of_ble_eq_true rfl)) dX11_combine_57 ⟨show 10 + 0 ≤ 47 by omega, show 1350 + 0 ≤ 2726 by omega⟩) (fun r17 μ16 H locs h hw => ?_)
          exact hret H locs ls 60 _ _ _ _ _ hw h rfl (show 10 ≤ 47 by omega) (show 1350 ≤ 2726 by omega) dX11_combine_60
        have h := h.2 _ _ rfl
        have hw : MW D (MR ad cI μ5) [eI cI q13 n14 f15] (MA ad s.heap.size) s H locs := hw
        refine M_calli hw (MA.up hw.2.2.1.1) (va_runV (own := "LeastreaderModel") (As := [.int a4, .ref q13]) (rest := []) ⟨hx, hb, hml, hown, ht⟩ (c_X11_become q13 μ5 H.size a4 n14 f15 h) (cwV 2 ht (G_V q_1475 q_1477 q_39 q_56 q_1478) rfl rfl rfl ⟨rfl, hd_104⟩ ⟨Nat.le_of_ble_eq_true rfl, Nat.le_of_ble_eq_true rfl⟩) ⟨MB.blind, M_recv hK hw, MB.pre hK hI hw (va_Pc2 (hw.n (j := 0) rfl) va_P0) (neC (hw.ne (j := 0) rfl) ne0)⟩ rfl rfl hl.1 rfl (lv_room (Nat.le_of_ble_eq_true rfl)) dX11_combine_57 ⟨show 10 + 0 ≤ 47 by omega, show 1350 + 0 ≤ 2726 by omega⟩) (fun r19 μ18 H locs h hw => ?_)
        exact hret H locs ls 60 _ _ _ _ _ hw h rfl (show 10 ≤ 47 by omega) (show 1350 ≤ 2726 by omega) dX11_combine_60
      obtain ⟨e9, h⟩ := h
      rw [e9] at hw
      have h := h.2 _ _ rfl
      have hw : MW D (MR ad cI μ5) [eI cI q10 n11 f12] (MA ad s.heap.size) s H locs := hw
      refine S_callA hw (va_runS (own := "LeastreaderModel") (As := [.ref q10]) (rest := [.int a4, .ref (ad 0)]) ⟨hx, hb, hml, hown, ht⟩ (c_X11_least q10 H.size n11 f12 h) (va_cwS 1 ht (G_S q_1466 q_1467 q_56 q_1468) rfl rfl rfl hd_87 ⟨Nat.le_of_ble_eq_true rfl, Nat.le_of_ble_eq_true rfl⟩) ⟨SB.blind, SB.pre hK (va_Pc2 (hw.n (j := 0) rfl) va_P0)⟩ rfl rfl hl.1 rfl (lv_room (Nat.le_of_ble_eq_true rfl)) dX11_combine_54 ⟨show 10 + 37 ≤ 47 by omega, show 1350 + 1376 ≤ 2726 by omega⟩) (fun H locs h hw => ?_) (fun q21 n22 f23 H locs hq21 h hw => ?_)
      · skip
        have h := h.1 rfl
        refine M_calli hw (MA.up hw.2.2.1.1) (va_runV (own := "LeastreaderModel") (As := [.int a4, .null]) (rest := []) ⟨hx, hb, hml, hown, ht⟩ (c_X11_become_n μ5 H.size a4 h) (cwV 2 ht (G_V q_1475 q_1477 q_39 q_56 q_1478) rfl rfl rfl ⟨rfl, hd_104⟩ ⟨Nat.le_of_ble_eq_true rfl, Nat.le_of_ble_eq_true rfl⟩) ⟨MB.blind, M_recv hK hw, MB.pre hK hI hw va_P0 ne0⟩ rfl rfl hl.1 rfl (lv_room (Nat.le_of_ble_eq_true rfl)) dX11_combine_57 ⟨show 47 + 0 ≤ 47 by omega, show 2726 + 0 ≤ 2726 by omega⟩) (fun r25 μ24 H locs h hw => ?_)
        exact hret H locs ls 60 _ _ _ _ _ hw h rfl (show 47 ≤ 47 by omega) (show 2726 ≤ 2726 by omega) dX11_combine_60
      have h := h.2 _ _ rfl
      have hw : MW D (MR ad cI μ5) [eI cI q10 n11 f12, eI cI q21 n22 f23] (MA ad s.heap.size) s H locs := hw
      refine M_calli hw (MA.up hw.2.2.1.1) (va_runV (own := "LeastreaderModel") (As := [.int a4, .ref q21]) (rest := []) ⟨hx, hb, hml, hown, ht⟩ (c_X11_become q21 μ5 H.size a4 n22 f23 h) (cwV 2 ht (G_V q_1475 q_1477 q_39 q_56 q_1478) rfl rfl rfl ⟨rfl, hd_104⟩ ⟨Nat.le_of_ble_eq_true rfl, Nat.le_of_ble_eq_true rfl⟩) ⟨MB.blind, M_recv hK hw, MB.pre hK hI hw (va_Pc2 (hw.n (j := 1) rfl) va_P0) (neC (hw.ne (j := 1) rfl) ne0)⟩ rfl rfl hl.1 rfl (lv_room (Nat.le_of_ble_eq_true rfl)) dX11_combine_57 ⟨show 47 + 0 ≤ 47 by omega, show 2726 + 0 ≤ 2726 by omega⟩) (fun r27 μ26 H locs h hw => ?_)
      exact hret H locs ls 60 _ _ _ _ _ hw h rfl (show 47 ≤ 47 by omega) (show 2726 ≤ 2726 by omega) dX11_combine_60
    have h := h.2 c7
    refine lv_iconst (v := (0 : Int32)) hx hb dX11_combine_40 (by decide) ?_
    refine lv_goto (tgt := 60) hx hb dX11_combine_41 (by decide) ?_
    exact hret H locs ls 60 _ _ _ _ _ hw h rfl (show 0 ≤ 47 by omega) (show 0 ≤ 2726 by omega) dX11_combine_60)
  refine lv_if_eq (tgt := 27) hx hb dX11_combine_5 (by decide) (fun c30 => ?_) (fun c30 => ?_)
  · have h := h.1 c30
    refine lv_iconst (v := (0 : Int32)) hx hb dX11_combine_27 (by decide) ?_
    exact h H locs ls hw (lv_sub hl [0, 1, 2, 3, 4] rfl)
  have h := h.2 c30
  refine lv_iload_n hx hb dX11_combine_8 rfl (lv_at hl 2 rfl) ?_
  refine P_calli (va_runS (own := "LeastreaderModel") (As := [.int a2]) (rest := [.ref (ad 0)]) ⟨hx, hb, hml, hown, ht⟩ (c_X11_isOne a2 h) (va_cwS 1 ht (G_S q_1342 q_1343 q_56 q_1344) rfl rfl rfl hd_91 ⟨Nat.le_of_ble_eq_true rfl, Nat.le_of_ble_eq_true rfl⟩) ⟨PM_blind, PM_pre⟩ rfl rfl hl.1 rfl (lv_room (Nat.le_of_ble_eq_true rfl)) dX11_combine_9 ⟨show 0 + 0 ≤ 47 by omega, show 0 + 0 ≤ 2726 by omega⟩) (fun r31 h => ?_)
  refine lv_if_eq (tgt := 27) hx hb dX11_combine_12 (by decide) (fun c32 => ?_) (fun c32 => ?_)
  · have h := h.1 c32
    refine lv_iconst (v := (0 : Int32)) hx hb dX11_combine_27 (by decide) ?_
    exact h H locs ls hw (lv_sub hl [0, 1, 2, 3, 4] rfl)
  have h := h.2 c32
  refine lv_iload hx hb dX11_combine_15 (lv_at hl 4 rfl) ?_
  refine P_calli (va_runS (own := "LeastreaderModel") (As := [.int a4]) (rest := [.ref (ad 0)]) ⟨hx, hb, hml, hown, ht⟩ (c_X11_isOne a4 h) (va_cwS 1 ht (G_S q_1342 q_1343 q_56 q_1344) rfl rfl rfl hd_91 ⟨Nat.le_of_ble_eq_true rfl, Nat.le_of_ble_eq_true rfl⟩) ⟨PM_blind, PM_pre⟩ rfl rfl hl.1 rfl (lv_room (Nat.le_of_ble_eq_true rfl)) dX11_combine_17 ⟨show 0 + 0 ≤ 47 by omega, show 0 + 0 ≤ 2726 by omega⟩) (fun r33 h => ?_)
  refine lv_if_eq (tgt := 27) hx hb dX11_combine_20 (by decide) (fun c34 => ?_) (fun c34 => ?_)
  · have h := h.1 c34
    refine lv_iconst (v := (0 : Int32)) hx hb dX11_combine_27 (by decide) ?_
    exact h H locs ls hw (lv_sub hl [0, 1, 2, 3, 4] rfl)
  have h := h.2 c34
  refine lv_iconst (v := (1 : Int32)) hx hb dX11_combine_23 (by decide) ?_
  refine lv_goto (tgt := 28) hx hb dX11_combine_24 (by decide) ?_
  exact h H locs ls hw (lv_sub hl [0, 1, 2, 3, 4] rfl)
def wp_X11_tell (μ : TMem) (a1 : Int32) (a2 : Int32) (Q : Int32 → TMem → Prop) : Prop :=
  wp_X11_isOne a1 (fun (r1 : Int32) => wp_X11_isIn a2 (0 : Int32) (4 : Int32) (fun (r2 : Int32) => wp_X11_isThrown μ r1 r2 (fun (r4 : Int32) (μ3 : TMem) => (r4 = 0 → ((¬ a2 = 0 → ((¬ a2 = (1 : Int32) → ((¬ a2 = (2 : Int32) → ((¬ a2 = (3 : Int32) → (wp_X11_isPlain μ3 a1 (fun (r12 : Int32) => (r12 = 0 → (Q (0 : Int32) μ3)) ∧ (¬ r12 = 0 → (Q (1 : Int32) μ3))))) ∧ (a2 = (3 : Int32) → (vp_in a1 (ml 3) ∧ (Q (μ3 3 a1.toNatClampNeg) μ3))))) ∧ (a2 = (2 : Int32) → (vp_in a1 (ml 2) ∧ (Q (μ3 2 a1.toNatClampNeg) μ3))))) ∧ (a2 = (1 : Int32) → (wp_X11_arrowsOf μ3 a1 (fun (r18 : Int32) => Q r18 μ3))))) ∧ (a2 = 0 → (vp_in a1 (ml 1) ∧ (Q (μ3 1 a1.toNatClampNeg) μ3))))) ∧ (¬ r4 = 0 → (Q (0 : Int32) μ3)))))
set_option maxHeartbeats 4000000 in
set_option maxRecDepth 100000 in
theorem c_X11_tell {l : Launch} {D : va_G} {ad : Nat → Nat} {cI cL : ClassId}  (μ : TMem) (sz : Nat) (a1 : Int32) (a2 : Int32)  {Q : Int32 → TMem → Prop} (h : wp_X11_tell μ a1 a2 Q) : MMi l yX11_tell (.code yX11_tell cX11_tell 3 (Option.some Jvm.ClassFile.FieldType.int)) 2 0 0 [.ref (ad 0), .int a1, .int a2] D ad cI cL sz μ [] Q := by
  refine M_meti (by decide +kernel) (Nat.le_of_ble_eq_true rfl) ?_
  intro p e s m below meth c Z ls hx hb hml hown ht hK hP0 hI hne hw hret hl
  have hl : lv_has ls 3 [(0, .ref (ad 0)), (1, .int a1), (2, .int a2)] := hl
  suffices hh : ∀ (H : Heap) (locs : List Loc), MW D (MR ad cI μ) [] (MA ad s.heap.size) s H locs → W p l e (RA 2 0 0) s m #[.ref (ad 0), .int a1, .int a2] below meth c H locs 0 0 Z (F0 m 0 ls []) from hh _ _ hw
  intro H locs hw
  change wp_X11_isOne a1 (fun (r1 : Int32) => wp_X11_isIn a2 (0 : Int32) (4 : Int32) (fun (r2 : Int32) => wp_X11_isThrown μ r1 r2 (fun (r4 : Int32) (μ3 : TMem) => (r4 = 0 → ((¬ a2 = 0 → ((¬ a2 = (1 : Int32) → ((¬ a2 = (2 : Int32) → ((¬ a2 = (3 : Int32) → (wp_X11_isPlain μ3 a1 (fun (r12 : Int32) => (r12 = 0 → (Q (0 : Int32) μ3)) ∧ (¬ r12 = 0 → (Q (1 : Int32) μ3))))) ∧ (a2 = (3 : Int32) → (vp_in a1 (ml 3) ∧ (Q (μ3 3 a1.toNatClampNeg) μ3))))) ∧ (a2 = (2 : Int32) → (vp_in a1 (ml 2) ∧ (Q (μ3 2 a1.toNatClampNeg) μ3))))) ∧ (a2 = (1 : Int32) → (wp_X11_arrowsOf μ3 a1 (fun (r18 : Int32) => Q r18 μ3))))) ∧ (a2 = 0 → (vp_in a1 (ml 1) ∧ (Q (μ3 1 a1.toNatClampNeg) μ3))))) ∧ (¬ r4 = 0 → (Q (0 : Int32) μ3))))) at h
  refine lv_aload_n hx hb dX11_tell_0 rfl (lv_at hl 0 rfl) ?_
  refine lv_iload_n hx hb dX11_tell_1 rfl (lv_at hl 1 rfl) ?_
  refine P_calli (va_runS (own := "LeastreaderModel") (As := [.int a1]) (rest := [.ref (ad 0)]) ⟨hx, hb, hml, hown, ht⟩ (c_X11_isOne a1 h) (va_cwS 1 ht (G_S q_1342 q_1343 q_56 q_1344) rfl rfl rfl hd_91 ⟨Nat.le_of_ble_eq_true rfl, Nat.le_of_ble_eq_true rfl⟩) ⟨PM_blind, PM_pre⟩ rfl rfl hl.1 rfl (lv_room (Nat.le_of_ble_eq_true rfl)) dX11_tell_2 ⟨show 0 + 0 ≤ 0 by omega, show 0 + 0 ≤ 0 by omega⟩) (fun r1 h => ?_)
  refine lv_iload_n hx hb dX11_tell_5 rfl (lv_at hl 2 rfl) ?_
  refine lv_iconst (v := (0 : Int32)) hx hb dX11_tell_6 (by decide) ?_
  refine lv_iconst (v := (4 : Int32)) hx hb dX11_tell_7 (by decide) ?_
  refine P_calli (va_runS (own := "LeastreaderModel") (As := [.int a2, .int (0 : Int32), .int (4 : Int32)]) (rest := [.int r1, .ref (ad 0)]) ⟨hx, hb, hml, hown, ht⟩ (c_X11_isIn a2 (0 : Int32) (4 : Int32) h) (va_cwS 3 ht (G_S q_1345 q_1346 q_56 q_1347) rfl rfl rfl hd_78 ⟨Nat.le_of_ble_eq_true rfl, Nat.le_of_ble_eq_true rfl⟩) ⟨PM_blind, PM_pre⟩ rfl rfl hl.1 rfl (lv_room (Nat.le_of_ble_eq_true rfl)) dX11_tell_8 ⟨show 0 + 0 ≤ 0 by omega, show 0 + 0 ≤ 0 by omega⟩) (fun r2 h => ?_)
  refine M_calli hw (MA.up hw.2.2.1.1) (va_runV (own := "LeastreaderModel") (As := [.int r1, .int r2]) (rest := []) ⟨hx, hb, hml, hown, ht⟩ (c_X11_isThrown μ H.size r1 r2 h) (cwV 2 ht (G_V q_1348 q_1350 q_26 q_56 q_1351) rfl rfl rfl ⟨rfl, hd_92⟩ ⟨Nat.le_of_ble_eq_true rfl, Nat.le_of_ble_eq_true rfl⟩) ⟨MB.blind, M_recv hK hw, MB.pre hK hI hw va_P0 ne0⟩ rfl rfl hl.1 rfl (lv_room (Nat.le_of_ble_eq_true rfl)) dX11_tell_11 ⟨show 0 + 0 ≤ 0 by omega, show 0 + 0 ≤ 0 by omega⟩) (fun r4 μ3 H locs h hw => ?_)
  refine lv_if_eq (tgt := 19) hx hb dX11_tell_14 (by decide) (fun c5 => ?_) (fun c5 => ?_)
  · have h := h.1 c5
    refine lv_iload_n hx hb dX11_tell_19 rfl (lv_at hl 2 rfl) ?_
    refine lv_if_ne (tgt := 32) hx hb dX11_tell_20 (by decide) (fun c6 => ?_) (fun c6 => ?_)
    · have h := h.1 c6
      refine lv_iload_n hx hb dX11_tell_32 rfl (lv_at hl 2 rfl) ?_
      refine lv_iconst (v := (1 : Int32)) hx hb dX11_tell_33 (by decide) ?_
      refine lv_icmp_ne (tgt := 45) hx hb dX11_tell_34 (by decide) (fun c7 => ?_) (fun c7 => ?_)
      · have h := h.1 c7
        refine lv_iload_n hx hb dX11_tell_45 rfl (lv_at hl 2 rfl) ?_
        refine lv_iconst (v := (2 : Int32)) hx hb dX11_tell_46 (by decide) ?_
        refine lv_icmp_ne (tgt := 59) hx hb dX11_tell_47 (by decide) (fun c8 => ?_) (fun c8 => ?_)
        · have h := h.1 c8
          refine lv_iload_n hx hb dX11_tell_59 rfl (lv_at hl 2 rfl) ?_
          refine lv_iconst (v := (3 : Int32)) hx hb dX11_tell_60 (by decide) ?_
          refine lv_icmp_ne (tgt := 73) hx hb dX11_tell_61 (by decide) (fun c9 => ?_) (fun c9 => ?_)
          · have h := h.1 c9
            refine lv_aload_n hx hb dX11_tell_73 rfl (lv_at hl 0 rfl) ?_
            refine lv_iload_n hx hb dX11_tell_74 rfl (lv_at hl 1 rfl) ?_
            refine M_calli hw (MA.up hw.2.2.1.1) (va_runV (own := "LeastreaderModel") (As := [.int a1]) (rest := []) ⟨hx, hb, hml, hown, ht⟩ (c_X11_isPlain μ3 H.size a1 h) (cwV 1 ht (G_V q_1425 q_1427 q_34 q_56 q_1428) rfl rfl rfl ⟨rfl, hd_100⟩ ⟨Nat.le_of_ble_eq_true rfl, Nat.le_of_ble_eq_true rfl⟩) ⟨MB.blind, M_recv hK hw, MB.pre hK hI hw va_P0 ne0⟩ rfl rfl hl.1 rfl (lv_room (Nat.le_of_ble_eq_true rfl)) dX11_tell_75 ⟨show 0 + 0 ≤ 0 by omega, show 0 + 0 ≤ 0 by omega⟩) (fun r12 μ10 H locs h hw => ?_)
            obtain ⟨e11, h⟩ := h
            rw [e11] at hw
            refine lv_if_eq (tgt := 85) hx hb dX11_tell_78 (by decide) (fun c13 => ?_) (fun c13 => ?_)
            · have h := h.1 c13
              refine lv_iconst (v := (0 : Int32)) hx hb dX11_tell_85 (by decide) ?_
              exact hret H locs ls 86 _ _ _ _ _ hw h rfl (show 0 ≤ 0 by omega) (show 0 ≤ 0 by omega) dX11_tell_86
            have h := h.2 c13
            refine lv_iconst (v := (1 : Int32)) hx hb dX11_tell_81 (by decide) ?_
            refine lv_goto (tgt := 86) hx hb dX11_tell_82 (by decide) ?_
            exact hret H locs ls 86 _ _ _ _ _ hw h rfl (show 0 ≤ 0 by omega) (show 0 ≤ 0 by omega) dX11_tell_86
          have h := h.2 c9
          refine lv_aload_n hx hb dX11_tell_64 rfl (lv_at hl 0 rfl) ?_
          refine m_get (i := 2) hx hb ht hown hK hw (by decide) (ht _ q_1315) rfl rfl dX11_tell_65 ?_
          refine lv_iload_n hx hb dX11_tell_68 rfl (lv_at hl 1 rfl) ?_
          obtain ⟨z14, h⟩ := h
          refine m_iald hx hb hK hw (by decide) z14 dX11_tell_69 ?_
          refine lv_goto (tgt := 86) hx hb dX11_tell_70 (by decide) ?_
          exact hret H locs ls 86 _ _ _ _ _ hw h rfl (show 0 ≤ 0 by omega) (show 0 ≤ 0 by omega) dX11_tell_86
        have h := h.2 c8
        refine lv_aload_n hx hb dX11_tell_50 rfl (lv_at hl 0 rfl) ?_
        refine m_get (i := 1) hx hb ht hown hK hw (by decide) (ht _ q_1314) rfl rfl dX11_tell_51 ?_
        refine lv_iload_n hx hb dX11_tell_54 rfl (lv_at hl 1 rfl) ?_
        obtain ⟨z15, h⟩ := h
        refine m_iald hx hb hK hw (by decide) z15 dX11_tell_55 ?_
        refine lv_goto (tgt := 86) hx hb dX11_tell_56 (by decide) ?_
        exact hret H locs ls 86 _ _ _ _ _ hw h rfl (show 0 ≤ 0 by omega) (show 0 ≤ 0 by omega) dX11_tell_86
      have h := h.2 c7
      refine lv_aload_n hx hb dX11_tell_37 rfl (lv_at hl 0 rfl) ?_
      refine lv_iload_n hx hb dX11_tell_38 rfl (lv_at hl 1 rfl) ?_
      refine M_calli hw (MA.up hw.2.2.1.1) (va_runV (own := "LeastreaderModel") (As := [.int a1]) (rest := []) ⟨hx, hb, hml, hown, ht⟩ (c_X11_arrowsOf μ3 H.size a1 h) (cwV 1 ht (G_V q_1352 q_1354 q_27 q_56 q_1355) rfl rfl rfl ⟨rfl, hd_93⟩ ⟨Nat.le_of_ble_eq_true rfl, Nat.le_of_ble_eq_true rfl⟩) ⟨MB.blind, M_recv hK hw, MB.pre hK hI hw va_P0 ne0⟩ rfl rfl hl.1 rfl (lv_room (Nat.le_of_ble_eq_true rfl)) dX11_tell_39 ⟨show 0 + 0 ≤ 0 by omega, show 0 + 0 ≤ 0 by omega⟩) (fun r18 μ16 H locs h hw => ?_)
      obtain ⟨e17, h⟩ := h
      rw [e17] at hw
      refine lv_goto (tgt := 86) hx hb dX11_tell_42 (by decide) ?_
      exact hret H locs ls 86 _ _ _ _ _ hw h rfl (show 0 ≤ 0 by omega) (show 0 ≤ 0 by omega) dX11_tell_86
    have h := h.2 c6
    refine lv_aload_n hx hb dX11_tell_23 rfl (lv_at hl 0 rfl) ?_
    refine m_get (i := 0) hx hb ht hown hK hw (by decide) (ht _ q_1313) rfl rfl dX11_tell_24 ?_
    refine lv_iload_n hx hb dX11_tell_27 rfl (lv_at hl 1 rfl) ?_
    obtain ⟨z19, h⟩ := h
    refine m_iald hx hb hK hw (by decide) z19 dX11_tell_28 ?_
    refine lv_goto (tgt := 86) hx hb dX11_tell_29 (by decide) ?_
    exact hret H locs ls 86 _ _ _ _ _ hw h rfl (show 0 ≤ 0 by omega) (show 0 ≤ 0 by omega) dX11_tell_86
  have h := h.2 c5
  refine lv_iconst (v := (0 : Int32)) hx hb dX11_tell_17 (by decide) ?_
  exact hret H locs ls 18 _ _ _ _ _ hw h rfl (show 0 ≤ 0 by omega) (show 0 ≤ 0 by omega) dX11_tell_18
end
/-! part 72.r11 -/
section
def wp_X11_arrows (μ : TMem) (a1 : Int32) (a2 : Int32) (a3 : Int32) (Q : Int32 → TMem → Prop) : Prop :=
  wp_X11_isOne a1 (fun (r1 : Int32) => ∀ J2 : Int32 → Prop, (∀ (j3 : Int32), (wp_X11_isIn a3 (0 : Int32) (2 : Int32) (fun (r4 : Int32) => wp_X11_isThrown μ j3 r4 (fun (r6 : Int32) (μ5 : TMem) => (r6 = 0 → (wp_X11_key a1 a2 a3 (fun (r8 : Int32) => vp_in r8 (ml 4) ∧ (Q (μ5 4 r8.toNatClampNeg) μ5)))) ∧ (¬ r6 = 0 → (Q (0 : Int32) μ5))))) → J2 j3) → ((r1 = 0 → (J2 (0 : Int32))) ∧ (¬ r1 = 0 → (wp_X11_isState μ a1 a2 (fun (r13 : Int32) => (r13 = 0 → (J2 (0 : Int32))) ∧ (¬ r13 = 0 → (J2 (1 : Int32))))))))
set_option maxHeartbeats 4000000 in
set_option maxRecDepth 100000 in
theorem c_X11_arrows {l : Launch} {D : va_G} {ad : Nat → Nat} {cI cL : ClassId}  (μ : TMem) (sz : Nat) (a1 : Int32) (a2 : Int32) (a3 : Int32)  {Q : Int32 → TMem → Prop} (h : wp_X11_arrows μ a1 a2 a3 Q) : MMi l yX11_arrows (.code yX11_arrows cX11_arrows 4 (Option.some Jvm.ClassFile.FieldType.int)) 2 0 0 [.ref (ad 0), .int a1, .int a2, .int a3] D ad cI cL sz μ [] Q := by
  refine M_meti (by decide +kernel) (Nat.le_of_ble_eq_true rfl) ?_
  intro p e s m below meth c Z ls hx hb hml hown ht hK hP0 hI hne hw hret hl
  have hl : lv_has ls 4 [(0, .ref (ad 0)), (1, .int a1), (2, .int a2), (3, .int a3)] := hl
  suffices hh : ∀ (H : Heap) (locs : List Loc), MW D (MR ad cI μ) [] (MA ad s.heap.size) s H locs → W p l e (RA 2 0 0) s m #[.ref (ad 0), .int a1, .int a2, .int a3] below meth c H locs 0 0 Z (F0 m 0 ls []) from hh _ _ hw
  intro H locs hw
  change wp_X11_isOne a1 (fun (r1 : Int32) => ∀ J2 : Int32 → Prop, (∀ (j3 : Int32), (wp_X11_isIn a3 (0 : Int32) (2 : Int32) (fun (r4 : Int32) => wp_X11_isThrown μ j3 r4 (fun (r6 : Int32) (μ5 : TMem) => (r6 = 0 → (wp_X11_key a1 a2 a3 (fun (r8 : Int32) => vp_in r8 (ml 4) ∧ (Q (μ5 4 r8.toNatClampNeg) μ5)))) ∧ (¬ r6 = 0 → (Q (0 : Int32) μ5))))) → J2 j3) → ((r1 = 0 → (J2 (0 : Int32))) ∧ (¬ r1 = 0 → (wp_X11_isState μ a1 a2 (fun (r13 : Int32) => (r13 = 0 → (J2 (0 : Int32))) ∧ (¬ r13 = 0 → (J2 (1 : Int32)))))))) at h
  refine lv_aload_n hx hb dX11_arrows_0 rfl (lv_at hl 0 rfl) ?_
  refine lv_iload_n hx hb dX11_arrows_1 rfl (lv_at hl 1 rfl) ?_
  refine P_calli (va_runS (own := "LeastreaderModel") (As := [.int a1]) (rest := [.ref (ad 0)]) ⟨hx, hb, hml, hown, ht⟩ (c_X11_isOne a1 h) (va_cwS 1 ht (G_S q_1342 q_1343 q_56 q_1344) rfl rfl rfl hd_91 ⟨Nat.le_of_ble_eq_true rfl, Nat.le_of_ble_eq_true rfl⟩) ⟨PM_blind, PM_pre⟩ rfl rfl hl.1 rfl (lv_room (Nat.le_of_ble_eq_true rfl)) dX11_arrows_2 ⟨show 0 + 0 ≤ 0 by omega, show 0 + 0 ≤ 0 by omega⟩) (fun r1 h => ?_)
  have h := h (fun (j3 : Int32) => ∀ (H : Heap) (locs : List Loc) (ls : Array Slot), MW D (MR ad cI μ) [] (MA ad s.heap.size) s H locs → lv_has ls 4 [(0, .ref (ad 0)), (1, .int a1), (2, .int a2), (3, .int a3)] → W p l e (RA 2 0 0) s m #[.ref (ad 0), .int a1, .int a2, .int a3] below meth c H locs 0 0 Z (F0 m 22 ls [.int j3, .ref (ad 0)])) (fun j3 h H locs ls hw hl => by
    refine lv_iload_n hx hb dX11_arrows_22 rfl (lv_at hl 3 rfl) ?_
    refine lv_iconst (v := (0 : Int32)) hx hb dX11_arrows_23 (by decide) ?_
    refine lv_iconst (v := (2 : Int32)) hx hb dX11_arrows_24 (by decide) ?_
    refine P_calli (va_runS (own := "LeastreaderModel") (As := [.int a3, .int (0 : Int32), .int (2 : Int32)]) (rest := [.int j3, .ref (ad 0)]) ⟨hx, hb, hml, hown, ht⟩ (c_X11_isIn a3 (0 : Int32) (2 : Int32) h) (va_cwS 3 ht (G_S q_1345 q_1346 q_56 q_1347) rfl rfl rfl hd_78 ⟨Nat.le_of_ble_eq_true rfl, Nat.le_of_ble_eq_true rfl⟩) ⟨PM_blind, PM_pre⟩ rfl rfl hl.1 rfl (lv_room (Nat.le_of_ble_eq_true rfl)) dX11_arrows_25 ⟨show 0 + 0 ≤ 0 by omega, show 0 + 0 ≤ 0 by omega⟩) (fun r4 h => ?_)
    refine M_calli hw (MA.up hw.2.2.1.1) (va_runV (own := "LeastreaderModel") (As := [.int j3, .int r4]) (rest := []) ⟨hx, hb, hml, hown, ht⟩ (c_X11_isThrown μ H.size j3 r4 h) (cwV 2 ht (G_V q_1348 q_1350 q_26 q_56 q_1351) rfl rfl rfl ⟨rfl, hd_92⟩ ⟨Nat.le_of_ble_eq_true rfl, Nat.le_of_ble_eq_true rfl⟩) ⟨MB.blind, M_recv hK hw, MB.pre hK hI hw va_P0 ne0⟩ rfl rfl hl.1 rfl (lv_room (Nat.le_of_ble_eq_true rfl)) dX11_arrows_28 ⟨show 0 + 0 ≤ 0 by omega, show 0 + 0 ≤ 0 by omega⟩) (fun r6 μ5 H locs h hw => ?_)
    refine lv_if_eq (tgt := 38) hx hb dX11_arrows_31 (by decide) (fun c7 => ?_) (fun c7 => ?_)
    · have h := h.1 c7
      refine lv_aload_n hx hb dX11_arrows_38 rfl (lv_at hl 0 rfl) ?_
      refine m_get (i := 3) hx hb ht hown hK hw (by decide) (ht _ q_1316) rfl rfl dX11_arrows_39 ?_
      refine lv_iload_n hx hb dX11_arrows_42 rfl (lv_at hl 1 rfl) ?_
      refine lv_iload_n hx hb dX11_arrows_43 rfl (lv_at hl 2 rfl) ?_
      refine lv_iload_n hx hb dX11_arrows_44 rfl (lv_at hl 3 rfl) ?_
      refine P_calli (va_runS (own := "LeastreaderModel") (As := [.int a1, .int a2, .int a3]) (rest := [.ref (ad 4)]) ⟨hx, hb, hml, hown, ht⟩ (c_X11_key a1 a2 a3 h) (va_cwS 3 ht (G_S q_1356 q_1357 q_56 q_1358) rfl rfl rfl hd_79 ⟨Nat.le_of_ble_eq_true rfl, Nat.le_of_ble_eq_true rfl⟩) ⟨PM_blind, PM_pre⟩ rfl rfl hl.1 rfl (lv_room (Nat.le_of_ble_eq_true rfl)) dX11_arrows_45 ⟨show 0 + 0 ≤ 0 by omega, show 0 + 0 ≤ 0 by omega⟩) (fun r8 h => ?_)
      obtain ⟨z9, h⟩ := h
      refine m_iald hx hb hK hw (by decide) z9 dX11_arrows_48 ?_
      exact hret H locs ls 49 _ _ _ _ _ hw h rfl (show 0 ≤ 0 by omega) (show 0 ≤ 0 by omega) dX11_arrows_49
    have h := h.2 c7
    refine lv_iconst (v := (0 : Int32)) hx hb dX11_arrows_34 (by decide) ?_
    refine lv_goto (tgt := 49) hx hb dX11_arrows_35 (by decide) ?_
    exact hret H locs ls 49 _ _ _ _ _ hw h rfl (show 0 ≤ 0 by omega) (show 0 ≤ 0 by omega) dX11_arrows_49)
  refine lv_if_eq (tgt := 21) hx hb dX11_arrows_5 (by decide) (fun c10 => ?_) (fun c10 => ?_)
  · have h := h.1 c10
    refine lv_iconst (v := (0 : Int32)) hx hb dX11_arrows_21 (by decide) ?_
    exact h H locs ls hw (lv_sub hl [0, 1, 2, 3] rfl)
  have h := h.2 c10
  refine lv_aload_n hx hb dX11_arrows_8 rfl (lv_at hl 0 rfl) ?_
  refine lv_iload_n hx hb dX11_arrows_9 rfl (lv_at hl 1 rfl) ?_
  refine lv_iload_n hx hb dX11_arrows_10 rfl (lv_at hl 2 rfl) ?_
  refine M_calli hw (MA.up hw.2.2.1.1) (va_runV (own := "LeastreaderModel") (As := [.int a1, .int a2]) (rest := [.ref (ad 0)]) ⟨hx, hb, hml, hown, ht⟩ (c_X11_isState μ H.size a1 a2 h) (cwV 2 ht (G_V q_1376 q_1378 q_31 q_56 q_1379) rfl rfl rfl ⟨rfl, hd_96⟩ ⟨Nat.le_of_ble_eq_true rfl, Nat.le_of_ble_eq_true rfl⟩) ⟨MB.blind, M_recv hK hw, MB.pre hK hI hw va_P0 ne0⟩ rfl rfl hl.1 rfl (lv_room (Nat.le_of_ble_eq_true rfl)) dX11_arrows_11 ⟨show 0 + 0 ≤ 0 by omega, show 0 + 0 ≤ 0 by omega⟩) (fun r13 μ11 H locs h hw => ?_)
  obtain ⟨e12, h⟩ := h
  rw [e12] at hw
  refine lv_if_eq (tgt := 21) hx hb dX11_arrows_14 (by decide) (fun c14 => ?_) (fun c14 => ?_)
  · have h := h.1 c14
    refine lv_iconst (v := (0 : Int32)) hx hb dX11_arrows_21 (by decide) ?_
    exact h H locs ls hw (lv_sub hl [0, 1, 2, 3] rfl)
  have h := h.2 c14
  refine lv_iconst (v := (1 : Int32)) hx hb dX11_arrows_17 (by decide) ?_
  refine lv_goto (tgt := 22) hx hb dX11_arrows_18 (by decide) ?_
  exact h H locs ls hw (lv_sub hl [0, 1, 2, 3] rfl)
def wpl_X11_power_4 (v4 : Int32) (Q : Int32 → Prop) : Nat → Int32 → Int32 → Prop
  | 0, _, _ => False
  | n + 1, v2, v3 =>
    (v4 ≤ v2 → (Q v3)) ∧ (¬ v4 ≤ v2 → (wpl_X11_power_4 v4 Q n (v2 + (1 : Int32)) (v3 * (3 : Int32))))
def wp_X11_power (a0 : Int32) (Q : Int32 → Prop) : Prop :=
  ∃ n0x, wpl_X11_power_4 a0 Q n0x (0 : Int32) (1 : Int32)
set_option maxHeartbeats 4000000 in
set_option maxRecDepth 100000 in
theorem c_X11_power {l : Launch} (a0 : Int32) {Q : Int32 → Prop} (h : wp_X11_power a0 Q) : PMi l yX11_power (.code yX11_power cX11_power 3 (Option.some Jvm.ClassFile.FieldType.int)) 0 [.int a0] Q := by
  refine P_meti (by decide +kernel) (Nat.le_of_ble_eq_true rfl) ?_
  intro p e s m below meth c Z ls hx hb hml hown ht hret hl
  have hl : lv_has ls 3 [(0, .int a0)] := hl
  change ∃ n0x, wpl_X11_power_4 a0 Q n0x (0 : Int32) (1 : Int32) at h
  refine lv_iconst (v := (1 : Int32)) hx hb dX11_power_0 (by decide) ?_
  refine lv_istore_n (lv' := [(1, .int (1 : Int32)), (0, .int a0)]) hx hb dX11_power_1 rfl hl (by decide) rfl (fun ls hl => ?_)
  refine lv_iconst (v := (0 : Int32)) hx hb dX11_power_2 (by decide) ?_
  refine lv_istore_n (lv' := [(2, .int (0 : Int32)), (1, .int (1 : Int32)), (0, .int a0)]) hx hb dX11_power_3 rfl hl (by decide) rfl (fun ls hl => ?_)
  obtain ⟨n6, h⟩ := h
  have L0 : ∀ (v4 : Int32), ∀ (n : Nat) (v2 : Int32) (v3 : Int32) (ls : Array Slot), lv_has ls 3 [(2, .int v2), (1, .int v3), (0, .int v4)] → wpl_X11_power_4 v4 Q n v2 v3 → W p l e (RM 0) s m #[.int a0] below meth c s.heap [] 0 0 Z (F0 m 4 ls []) := by
    intro v4
    intro n
    induction n with
    | zero => intro v2 v3 ls hl h; exact False.elim h
    | succ n ih0 =>
      intro v2 v3 ls hl h
      change (v4 ≤ v2 → (Q v3)) ∧ (¬ v4 ≤ v2 → (wpl_X11_power_4 v4 Q n (v2 + (1 : Int32)) (v3 * (3 : Int32)))) at h
      refine lv_iload_n hx hb dX11_power_4 rfl (lv_at hl 0 rfl) ?_
      refine lv_iload_n hx hb dX11_power_5 rfl (lv_at hl 2 rfl) ?_
      refine lv_icmp_ge (tgt := 19) hx hb dX11_power_6 (by decide) (fun c5 => ?_) (fun c5 => ?_)
      · have h := h.1 c5
        refine lv_iload_n hx hb dX11_power_19 rfl (lv_at hl 1 rfl) ?_
        exact hret ls 20 _ h rfl dX11_power_20
      have h := h.2 c5
      refine lv_iload_n hx hb dX11_power_9 rfl (lv_at hl 1 rfl) ?_
      refine lv_iconst (v := (3 : Int32)) hx hb dX11_power_10 (by decide) ?_
      refine lv_imul hx hb dX11_power_11 ?_
      refine lv_istore_n (lv' := [(1, .int (v3 * (3 : Int32))), (2, .int v2), (0, .int v4)]) hx hb dX11_power_12 rfl hl (by decide) rfl (fun ls hl => ?_)
      refine lv_iinc (v := (v2 + (1 : Int32))) (lv' := [(2, .int (v2 + (1 : Int32))), (1, .int (v3 * (3 : Int32))), (0, .int v4)]) hx hb dX11_power_13 hl (k := 1) rfl rfl (by decide) rfl (fun ls hl => ?_)
      refine lv_goto (tgt := 4) hx hb dX11_power_16 (by decide) ?_
      exact ih0 (v2 + (1 : Int32)) (v3 * (3 : Int32)) ls (lv_sub hl [0, 1, 2] rfl) h
  exact L0 a0 n6 (0 : Int32) (1 : Int32) ls (lv_sub hl [0, 1, 2] rfl) h
def wp_X11_isWord (a0 : Int32) (a1 : Int32) (Q : Int32 → Prop) : Prop :=
  wp_X11_isIn a0 (0 : Int32) (12 : Int32) (fun (r1 : Int32) => (r1 = 0 → (Q (0 : Int32))) ∧ (¬ r1 = 0 → (wp_X11_power a0 (fun (r3 : Int32) => wp_X11_isIn a1 (0 : Int32) (r3 - (1 : Int32)) (fun (r4 : Int32) => (r4 = 0 → (Q (0 : Int32))) ∧ (¬ r4 = 0 → (Q (1 : Int32))))))))
set_option maxHeartbeats 4000000 in
set_option maxRecDepth 100000 in
theorem c_X11_isWord {l : Launch} (a0 : Int32) (a1 : Int32) {Q : Int32 → Prop} (h : wp_X11_isWord a0 a1 Q) : PMi l yX11_isWord (.code yX11_isWord cX11_isWord 2 (Option.some Jvm.ClassFile.FieldType.boolean)) 1 [.int a0, .int a1] Q := by
  refine P_meti (by decide +kernel) (Nat.le_of_ble_eq_true rfl) ?_
  intro p e s m below meth c Z ls hx hb hml hown ht hret hl
  have hl : lv_has ls 2 [(0, .int a0), (1, .int a1)] := hl
  change wp_X11_isIn a0 (0 : Int32) (12 : Int32) (fun (r1 : Int32) => (r1 = 0 → (Q (0 : Int32))) ∧ (¬ r1 = 0 → (wp_X11_power a0 (fun (r3 : Int32) => wp_X11_isIn a1 (0 : Int32) (r3 - (1 : Int32)) (fun (r4 : Int32) => (r4 = 0 → (Q (0 : Int32))) ∧ (¬ r4 = 0 → (Q (1 : Int32)))))))) at h
  refine lv_iload_n hx hb dX11_isWord_0 rfl (lv_at hl 0 rfl) ?_
  refine lv_iconst (v := (0 : Int32)) hx hb dX11_isWord_1 (by decide) ?_
  refine lv_bipush (v := (12 : Int32)) hx hb dX11_isWord_2 (by decide) ?_
  refine P_calli (va_runS (own := "LeastreaderModel") (As := [.int a0, .int (0 : Int32), .int (12 : Int32)]) (rest := []) ⟨hx, hb, hml, hown, ht⟩ (c_X11_isIn a0 (0 : Int32) (12 : Int32) h) (va_cwS 3 ht (G_S q_1345 q_1346 q_56 q_1347) rfl rfl rfl hd_78 ⟨Nat.le_of_ble_eq_true rfl, Nat.le_of_ble_eq_true rfl⟩) ⟨PM_blind, PM_pre⟩ rfl rfl hl.1 rfl (lv_room (Nat.le_of_ble_eq_true rfl)) dX11_isWord_4 ⟨Nat.le_of_ble_eq_true rfl, Nat.le_of_ble_eq_true rfl⟩) (fun r1 h => ?_)
  refine lv_if_eq (tgt := 28) hx hb dX11_isWord_7 (by decide) (fun c2 => ?_) (fun c2 => ?_)
  · have h := h.1 c2
    refine lv_iconst (v := (0 : Int32)) hx hb dX11_isWord_28 (by decide) ?_
    exact hret ls 29 _ h rfl dX11_isWord_29
  have h := h.2 c2
  refine lv_iload_n hx hb dX11_isWord_10 rfl (lv_at hl 1 rfl) ?_
  refine lv_iconst (v := (0 : Int32)) hx hb dX11_isWord_11 (by decide) ?_
  refine lv_iload_n hx hb dX11_isWord_12 rfl (lv_at hl 0 rfl) ?_
  refine P_calli (va_runS (own := "LeastreaderModel") (As := [.int a0]) (rest := [.int (0 : Int32), .int a1]) ⟨hx, hb, hml, hown, ht⟩ (c_X11_power a0 h) (va_cwS 1 ht (G_S q_1509 q_1510 q_56 q_1511) rfl rfl rfl hd_106 ⟨Nat.le_of_ble_eq_true rfl, Nat.le_of_ble_eq_true rfl⟩) ⟨PM_blind, PM_pre⟩ rfl rfl hl.1 rfl (lv_room (Nat.le_of_ble_eq_true rfl)) dX11_isWord_13 ⟨Nat.le_of_ble_eq_true rfl, Nat.le_of_ble_eq_true rfl⟩) (fun r3 h => ?_)
  refine lv_iconst (v := (1 : Int32)) hx hb dX11_isWord_16 (by decide) ?_
  refine lv_isub hx hb dX11_isWord_17 ?_
  refine P_calli (va_runS (own := "LeastreaderModel") (As := [.int a1, .int (0 : Int32), .int (r3 - (1 : Int32))]) (rest := []) ⟨hx, hb, hml, hown, ht⟩ (c_X11_isIn a1 (0 : Int32) (r3 - (1 : Int32)) h) (va_cwS 3 ht (G_S q_1345 q_1346 q_56 q_1347) rfl rfl rfl hd_78 ⟨Nat.le_of_ble_eq_true rfl, Nat.le_of_ble_eq_true rfl⟩) ⟨PM_blind, PM_pre⟩ rfl rfl hl.1 rfl (lv_room (Nat.le_of_ble_eq_true rfl)) dX11_isWord_18 ⟨Nat.le_of_ble_eq_true rfl, Nat.le_of_ble_eq_true rfl⟩) (fun r4 h => ?_)
  refine lv_if_eq (tgt := 28) hx hb dX11_isWord_21 (by decide) (fun c5 => ?_) (fun c5 => ?_)
  · have h := h.1 c5
    refine lv_iconst (v := (0 : Int32)) hx hb dX11_isWord_28 (by decide) ?_
    exact hret ls 29 _ h rfl dX11_isWord_29
  have h := h.2 c5
  refine lv_iconst (v := (1 : Int32)) hx hb dX11_isWord_24 (by decide) ?_
  refine lv_goto (tgt := 29) hx hb dX11_isWord_25 (by decide) ?_
  exact hret ls 29 _ h rfl dX11_isWord_29
def wpl_X11_setAfter_26 (μ : TMem) (v12 : Int32) (v13 : Int32) (v14 : Int32) (v15 : Int32) (v16 : Int32) (K74 : Int32 → Prop) : Nat → Int32 → Int32 → Prop
  | 0, _, _ => False
  | n + 1, v10, v11 =>
    vp_in v15 (ml 1) ∧ (((μ 1 v15.toNatClampNeg) ≤ v10 → (K74 v11)) ∧ (¬ (μ 1 v15.toNatClampNeg) ≤ v10 → ((¬ ((v14 >>> (v10 &&& 31)) &&& (1 : Int32)) = (1 : Int32) → (wpl_X11_setAfter_26 μ v12 v13 v14 v15 v16 K74 n (v10 + (1 : Int32)) v11)) ∧ (((v14 >>> (v10 &&& 31)) &&& (1 : Int32)) = (1 : Int32) → (wp_X11_key v15 v10 (v13 - v13 / (3 : Int32) * (3 : Int32)) (fun (r20 : Int32) => vp_in r20 (ml 4) ∧ (wpl_X11_setAfter_26 μ v12 v13 v14 v15 v16 K74 n (v10 + (1 : Int32)) (v11 ||| (μ 4 r20.toNatClampNeg)))))))))
def wpl_X11_setAfter_14 (μ : TMem) (v6 : Int32) (v7 : Int32) (Q : Int32 → Prop) : Nat → Int32 → Int32 → Int32 → Prop
  | 0, _, _, _ => False
  | n + 1, v3, v4, v5 =>
    (v7 ≤ v3 → (Q v5)) ∧ (¬ v7 ≤ v3 → (∃ n8x, wpl_X11_setAfter_26 μ v3 v4 v5 v6 v7 (fun (u23 : Int32) => wpl_X11_setAfter_14 μ v6 v7 Q n (v3 + (1 : Int32)) (v4 / (3 : Int32)) u23) n8x (0 : Int32) (0 : Int32)))
def wp_X11_setAfter (μ : TMem) (a1 : Int32) (a2 : Int32) (a3 : Int32) (Q : Int32 → Prop) : Prop :=
  vp_in a1 (ml 2) ∧ (∃ n1x, wpl_X11_setAfter_14 μ a1 a2 Q n1x (0 : Int32) a3 (μ 2 a1.toNatClampNeg))
set_option maxHeartbeats 4000000 in
set_option maxRecDepth 100000 in
theorem c_X11_setAfter {l : Launch} {D : va_G} {ad : Nat → Nat} {cI cL : ClassId}  (μ : TMem) (sz : Nat) (a1 : Int32) (a2 : Int32) (a3 : Int32)  {Q : Int32 → Prop} (h : wp_X11_setAfter μ a1 a2 a3 Q) : MMi l yX11_setAfter (.code yX11_setAfter cX11_setAfter 9 (Option.some Jvm.ClassFile.FieldType.int)) 1 0 0 [.ref (ad 0), .int a1, .int a2, .int a3] D ad cI cL sz μ [] (fun r μ1 => μ1 = μ ∧ Q r) := by
  refine M_meti (by decide +kernel) (Nat.le_of_ble_eq_true rfl) ?_
  intro p e s m below meth c Z ls hx hb hml hown ht hK hP0 hI hne hw hret hl
  have hl : lv_has ls 9 [(0, .ref (ad 0)), (1, .int a1), (2, .int a2), (3, .int a3)] := hl
  suffices hh : ∀ (H : Heap) (locs : List Loc), MW D (MR ad cI μ) [] (MA ad s.heap.size) s H locs → W p l e (RA 1 0 0) s m #[.ref (ad 0), .int a1, .int a2, .int a3] below meth c H locs 0 0 Z (F0 m 0 ls []) from hh _ _ hw
  intro H locs hw
  change vp_in a1 (ml 2) ∧ (∃ n1x, wpl_X11_setAfter_14 μ a1 a2 Q n1x (0 : Int32) a3 (μ 2 a1.toNatClampNeg)) at h
  refine lv_aload_n hx hb dX11_setAfter_0 rfl (lv_at hl 0 rfl) ?_
  refine m_get (i := 1) hx hb ht hown hK hw (by decide) (ht _ q_1314) rfl rfl dX11_setAfter_1 ?_
  refine lv_iload_n hx hb dX11_setAfter_4 rfl (lv_at hl 1 rfl) ?_
  obtain ⟨z1, h⟩ := h
  refine m_iald hx hb hK hw (by decide) z1 dX11_setAfter_5 ?_
  refine lv_istore (lv' := [(4, .int (μ 2 a1.toNatClampNeg)), (0, .ref (ad 0)), (1, .int a1), (2, .int a2), (3, .int a3)]) hx hb dX11_setAfter_6 hl (by decide) rfl (fun ls hl => ?_)
  refine lv_iload_n hx hb dX11_setAfter_8 rfl (lv_at hl 4 rfl) ?_
  refine lv_istore (lv' := [(5, .int a3), (4, .int (μ 2 a1.toNatClampNeg)), (0, .ref (ad 0)), (1, .int a1), (2, .int a2), (3, .int a3)]) hx hb dX11_setAfter_9 hl (by decide) rfl (fun ls hl => ?_)
  refine lv_iconst (v := (0 : Int32)) hx hb dX11_setAfter_11 (by decide) ?_
  refine lv_istore (lv' := [(6, .int (0 : Int32)), (5, .int a3), (4, .int (μ 2 a1.toNatClampNeg)), (0, .ref (ad 0)), (1, .int a1), (2, .int a2), (3, .int a3)]) hx hb dX11_setAfter_12 hl (by decide) rfl (fun ls hl => ?_)
  obtain ⟨n24, h⟩ := h
  have L1 : ∀ (v6 : Int32) (v7 : Int32), ∀ (n : Nat), ∀ (v3 : Int32) (v4 : Int32) (v5 : Int32), ∀ (H : Heap) (locs : List Loc) (ls : Array Slot), MW D (MR ad cI μ) [] (MA ad s.heap.size) s H locs → lv_has ls 9 [(6, .int v3), (5, .int v4), (4, .int v5), (0, .ref (ad 0)), (1, .int v6), (2, .int v7)] → wpl_X11_setAfter_14 μ v6 v7 Q n v3 v4 v5 → W p l e (RA 1 0 0) s m #[.ref (ad 0), .int a1, .int a2, .int a3] below meth c H locs 0 0 Z (F0 m 14 ls []) := by
    intro v6 v7
    intro n
    induction n with
    | zero => intro v3 v4 v5 H locs ls hw hl h; exact False.elim h
    | succ n ih1 =>
      intro v3 v4 v5 H locs ls hw hl h
      change (v7 ≤ v3 → (Q v5)) ∧ (¬ v7 ≤ v3 → (∃ n8x, wpl_X11_setAfter_26 μ v3 v4 v5 v6 v7 (fun (u23 : Int32) => wpl_X11_setAfter_14 μ v6 v7 Q n (v3 + (1 : Int32)) (v4 / (3 : Int32)) u23) n8x (0 : Int32) (0 : Int32))) at h
      refine lv_iload hx hb dX11_setAfter_14 (lv_at hl 0 rfl) ?_
      refine lv_iload_n hx hb dX11_setAfter_16 rfl (lv_at hl 5 rfl) ?_
      refine lv_icmp_ge (tgt := 90) hx hb dX11_setAfter_17 (by decide) (fun c8 => ?_) (fun c8 => ?_)
      · have h := h.1 c8
        refine lv_iload hx hb dX11_setAfter_90 (lv_at hl 2 rfl) ?_
        exact hret H locs ls 92 _ _ _ _ _ hw ⟨rfl, h⟩ rfl (show 0 ≤ 0 by omega) (show 0 ≤ 0 by omega) dX11_setAfter_92
      have h := h.2 c8
      refine lv_iconst (v := (0 : Int32)) hx hb dX11_setAfter_20 (by decide) ?_
      refine lv_istore (lv' := [(7, .int (0 : Int32)), (6, .int v3), (5, .int v4), (4, .int v5), (0, .ref (ad 0)), (1, .int v6), (2, .int v7)]) hx hb dX11_setAfter_21 hl (by decide) rfl (fun ls hl => ?_)
      refine lv_iconst (v := (0 : Int32)) hx hb dX11_setAfter_23 (by decide) ?_
      refine lv_istore (lv' := [(8, .int (0 : Int32)), (7, .int (0 : Int32)), (6, .int v3), (5, .int v4), (4, .int v5), (0, .ref (ad 0)), (1, .int v6), (2, .int v7)]) hx hb dX11_setAfter_24 hl (by decide) rfl (fun ls hl => ?_)
      obtain ⟨n22, h⟩ := h
      have L8 : ∀ (v12 : Int32) (v13 : Int32) (v14 : Int32) (v15 : Int32) (v16 : Int32) (K74 : Int32 → Prop), (∀ (v11 : Int32), ∀ (H : Heap) (locs : List Loc) (ls : Array Slot), MW D (MR ad cI μ) [] (MA ad s.heap.size) s H locs → lv_has ls 9 [(7, .int v11), (6, .int v12), (5, .int v13), (0, .ref (ad 0)), (1, .int v15), (2, .int v16)] → K74 v11 → W p l e (RA 1 0 0) s m #[.ref (ad 0), .int a1, .int a2, .int a3] below meth c H locs 0 0 Z (F0 m 74 ls [])) → ∀ (n : Nat), ∀ (v10 : Int32) (v11 : Int32), ∀ (H : Heap) (locs : List Loc) (ls : Array Slot), MW D (MR ad cI μ) [] (MA ad s.heap.size) s H locs → lv_has ls 9 [(8, .int v10), (7, .int v11), (6, .int v12), (5, .int v13), (4, .int v14), (0, .ref (ad 0)), (1, .int v15), (2, .int v16)] → wpl_X11_setAfter_26 μ v12 v13 v14 v15 v16 K74 n v10 v11 → W p l e (RA 1 0 0) s m #[.ref (ad 0), .int a1, .int a2, .int a3] below meth c H locs 0 0 Z (F0 m 26 ls []) := by
        intro v12 v13 v14 v15 v16 K74 hK74
        intro n
        induction n with
        | zero => intro v10 v11 H locs ls hw hl h; exact False.elim h
        | succ n ih8 =>
          intro v10 v11 H locs ls hw hl h
          change vp_in v15 (ml 1) ∧ (((μ 1 v15.toNatClampNeg) ≤ v10 → (K74 v11)) ∧ (¬ (μ 1 v15.toNatClampNeg) ≤ v10 → ((¬ ((v14 >>> (v10 &&& 31)) &&& (1 : Int32)) = (1 : Int32) → (wpl_X11_setAfter_26 μ v12 v13 v14 v15 v16 K74 n (v10 + (1 : Int32)) v11)) ∧ (((v14 >>> (v10 &&& 31)) &&& (1 : Int32)) = (1 : Int32) → (wp_X11_key v15 v10 (v13 - v13 / (3 : Int32) * (3 : Int32)) (fun (r20 : Int32) => vp_in r20 (ml 4) ∧ (wpl_X11_setAfter_26 μ v12 v13 v14 v15 v16 K74 n (v10 + (1 : Int32)) (v11 ||| (μ 4 r20.toNatClampNeg))))))))) at h
          refine lv_iload hx hb dX11_setAfter_26 (lv_at hl 0 rfl) ?_
          refine lv_aload_n hx hb dX11_setAfter_28 rfl (lv_at hl 5 rfl) ?_
          refine m_get (i := 0) hx hb ht hown hK hw (by decide) (ht _ q_1313) rfl rfl dX11_setAfter_29 ?_
          refine lv_iload_n hx hb dX11_setAfter_32 rfl (lv_at hl 6 rfl) ?_
          obtain ⟨z17, h⟩ := h
          refine m_iald hx hb hK hw (by decide) z17 dX11_setAfter_33 ?_
          refine lv_icmp_ge (tgt := 74) hx hb dX11_setAfter_34 (by decide) (fun c18 => ?_) (fun c18 => ?_)
          · have h := h.1 c18
            exact hK74 v11 H locs ls hw (lv_sub hl [1, 2, 3, 5, 6, 7] rfl) h
          have h := h.2 c18
          refine lv_iload hx hb dX11_setAfter_37 (lv_at hl 4 rfl) ?_
          refine lv_iload hx hb dX11_setAfter_39 (lv_at hl 0 rfl) ?_
          refine lv_ishr hx hb dX11_setAfter_41 ?_
          refine lv_iconst (v := (1 : Int32)) hx hb dX11_setAfter_42 (by decide) ?_
          refine lv_iand hx hb dX11_setAfter_43 ?_
          refine lv_iconst (v := (1 : Int32)) hx hb dX11_setAfter_44 (by decide) ?_
          refine lv_icmp_ne (tgt := 68) hx hb dX11_setAfter_45 (by decide) (fun c19 => ?_) (fun c19 => ?_)
          · have h := h.1 c19
            refine lv_iinc (v := (v10 + (1 : Int32))) (lv' := [(8, .int (v10 + (1 : Int32))), (7, .int v11), (6, .int v12), (5, .int v13), (4, .int v14), (0, .ref (ad 0)), (1, .int v15), (2, .int v16)]) hx hb dX11_setAfter_68 hl (k := 0) rfl rfl (by decide) rfl (fun ls hl => ?_)
            refine lv_goto (tgt := 26) hx hb dX11_setAfter_71 (by decide) ?_
            exact ih8 (v10 + (1 : Int32)) v11 H locs ls hw (lv_sub hl [0, 1, 2, 3, 4, 5, 6, 7] rfl) h
          have h := h.2 c19
          refine lv_iload hx hb dX11_setAfter_48 (lv_at hl 1 rfl) ?_
          refine lv_aload_n hx hb dX11_setAfter_50 rfl (lv_at hl 5 rfl) ?_
          refine m_get (i := 3) hx hb ht hown hK hw (by decide) (ht _ q_1316) rfl rfl dX11_setAfter_51 ?_
          refine lv_iload_n hx hb dX11_setAfter_54 rfl (lv_at hl 6 rfl) ?_
          refine lv_iload hx hb dX11_setAfter_55 (lv_at hl 0 rfl) ?_
          refine lv_iload hx hb dX11_setAfter_57 (lv_at hl 3 rfl) ?_
          refine lv_iconst (v := (3 : Int32)) hx hb dX11_setAfter_59 (by decide) ?_
          refine lv_irem hx hb dX11_setAfter_60 (by decide) ?_
          refine P_calli (va_runS (own := "LeastreaderModel") (As := [.int v15, .int v10, .int (v13 - v13 / (3 : Int32) * (3 : Int32))]) (rest := [.ref (ad 4), .int v11]) ⟨hx, hb, hml, hown, ht⟩ (c_X11_key v15 v10 (v13 - v13 / (3 : Int32) * (3 : Int32)) h) (va_cwS 3 ht (G_S q_1356 q_1357 q_56 q_1358) rfl rfl rfl hd_79 ⟨Nat.le_of_ble_eq_true rfl, Nat.le_of_ble_eq_true rfl⟩) ⟨PM_blind, PM_pre⟩ rfl rfl hl.1 rfl (lv_room (Nat.le_of_ble_eq_true rfl)) dX11_setAfter_61 ⟨show 0 + 0 ≤ 0 by omega, show 0 + 0 ≤ 0 by omega⟩) (fun r20 h => ?_)
          obtain ⟨z21, h⟩ := h
          refine m_iald hx hb hK hw (by decide) z21 dX11_setAfter_64 ?_
          refine lv_ior hx hb dX11_setAfter_65 ?_
          refine lv_istore (lv' := [(7, .int (v11 ||| (μ 4 r20.toNatClampNeg))), (8, .int v10), (6, .int v12), (5, .int v13), (4, .int v14), (0, .ref (ad 0)), (1, .int v15), (2, .int v16)]) hx hb dX11_setAfter_66 hl (by decide) rfl (fun ls hl => ?_)
          refine lv_iinc (v := (v10 + (1 : Int32))) (lv' := [(8, .int (v10 + (1 : Int32))), (7, .int (v11 ||| (μ 4 r20.toNatClampNeg))), (6, .int v12), (5, .int v13), (4, .int v14), (0, .ref (ad 0)), (1, .int v15), (2, .int v16)]) hx hb dX11_setAfter_68 hl (k := 1) rfl rfl (by decide) rfl (fun ls hl => ?_)
          refine lv_goto (tgt := 26) hx hb dX11_setAfter_71 (by decide) ?_
          exact ih8 (v10 + (1 : Int32)) (v11 ||| (μ 4 r20.toNatClampNeg)) H locs ls hw (lv_sub hl [0, 1, 2, 3, 4, 5, 6, 7] rfl) h
      refine L8 v3 v4 v5 v6 v7 _ ?_ n22 (0 : Int32) (0 : Int32) H locs ls hw (lv_sub hl [0, 1, 2, 3, 4, 5, 6, 7] rfl) h
      intro u23 H locs ls hw hl h
      refine lv_iload hx hb dX11_setAfter_74 (lv_at hl 0 rfl) ?_
      refine lv_istore (lv' := [(4, .int u23), (7, .int u23), (6, .int v3), (5, .int v4), (0, .ref (ad 0)), (1, .int v6), (2, .int v7)]) hx hb dX11_setAfter_76 hl (by decide) rfl (fun ls hl => ?_)
      refine lv_iload hx hb dX11_setAfter_78 (lv_at hl 3 rfl) ?_
      refine lv_iconst (v := (3 : Int32)) hx hb dX11_setAfter_80 (by decide) ?_
      refine lv_idiv hx hb dX11_setAfter_81 (by decide) ?_
      refine lv_istore (lv' := [(5, .int (v4 / (3 : Int32))), (4, .int u23), (7, .int u23), (6, .int v3), (0, .ref (ad 0)), (1, .int v6), (2, .int v7)]) hx hb dX11_setAfter_82 hl (by decide) rfl (fun ls hl => ?_)
      refine lv_iinc (v := (v3 + (1 : Int32))) (lv' := [(6, .int (v3 + (1 : Int32))), (5, .int (v4 / (3 : Int32))), (4, .int u23), (7, .int u23), (0, .ref (ad 0)), (1, .int v6), (2, .int v7)]) hx hb dX11_setAfter_84 hl (k := 3) rfl rfl (by decide) rfl (fun ls hl => ?_)
      refine lv_goto (tgt := 14) hx hb dX11_setAfter_87 (by decide) ?_
      exact ih1 (v3 + (1 : Int32)) (v4 / (3 : Int32)) u23 H locs ls hw (lv_sub hl [0, 1, 2, 4, 5, 6] rfl) h
  exact L1 a1 a2 n24 (0 : Int32) a3 (μ 2 a1.toNatClampNeg) H locs ls hw (lv_sub hl [0, 1, 2, 3, 4, 5] rfl) h
def wp_X11_takes (μ : TMem) (a1 : Int32) (a2 : Int32) (a3 : Int32) (Q : Int32 → TMem → Prop) : Prop :=
  wp_X11_isOne a1 (fun (r1 : Int32) => wp_X11_isWord a2 a3 (fun (r2 : Int32) => wp_X11_isThrown μ r1 r2 (fun (r4 : Int32) (μ3 : TMem) => (¬ r4 = 0 → (Q (0 : Int32) μ3)) ∧ (r4 = 0 → (wp_X11_setAfter μ3 a1 a2 a3 (fun (r8 : Int32) => vp_in a1 (ml 3) ∧ (((r8 &&& (μ3 3 a1.toNatClampNeg)) = 0 → (Q (0 : Int32) μ3)) ∧ (¬ (r8 &&& (μ3 3 a1.toNatClampNeg)) = 0 → (Q (1 : Int32) μ3)))))))))
set_option maxHeartbeats 4000000 in
set_option maxRecDepth 100000 in
theorem c_X11_takes {l : Launch} {D : va_G} {ad : Nat → Nat} {cI cL : ClassId}  (μ : TMem) (sz : Nat) (a1 : Int32) (a2 : Int32) (a3 : Int32)  {Q : Int32 → TMem → Prop} (h : wp_X11_takes μ a1 a2 a3 Q) : MMi l yX11_takes (.code yX11_takes cX11_takes 4 (Option.some Jvm.ClassFile.FieldType.boolean)) 2 0 0 [.ref (ad 0), .int a1, .int a2, .int a3] D ad cI cL sz μ [] Q := by
  refine M_meti (by decide +kernel) (Nat.le_of_ble_eq_true rfl) ?_
  intro p e s m below meth c Z ls hx hb hml hown ht hK hP0 hI hne hw hret hl
  have hl : lv_has ls 4 [(0, .ref (ad 0)), (1, .int a1), (2, .int a2), (3, .int a3)] := hl
  suffices hh : ∀ (H : Heap) (locs : List Loc), MW D (MR ad cI μ) [] (MA ad s.heap.size) s H locs → W p l e (RA 2 0 0) s m #[.ref (ad 0), .int a1, .int a2, .int a3] below meth c H locs 0 0 Z (F0 m 0 ls []) from hh _ _ hw
  intro H locs hw
  change wp_X11_isOne a1 (fun (r1 : Int32) => wp_X11_isWord a2 a3 (fun (r2 : Int32) => wp_X11_isThrown μ r1 r2 (fun (r4 : Int32) (μ3 : TMem) => (¬ r4 = 0 → (Q (0 : Int32) μ3)) ∧ (r4 = 0 → (wp_X11_setAfter μ3 a1 a2 a3 (fun (r8 : Int32) => vp_in a1 (ml 3) ∧ (((r8 &&& (μ3 3 a1.toNatClampNeg)) = 0 → (Q (0 : Int32) μ3)) ∧ (¬ (r8 &&& (μ3 3 a1.toNatClampNeg)) = 0 → (Q (1 : Int32) μ3))))))))) at h
  refine lv_aload_n hx hb dX11_takes_0 rfl (lv_at hl 0 rfl) ?_
  refine lv_iload_n hx hb dX11_takes_1 rfl (lv_at hl 1 rfl) ?_
  refine P_calli (va_runS (own := "LeastreaderModel") (As := [.int a1]) (rest := [.ref (ad 0)]) ⟨hx, hb, hml, hown, ht⟩ (c_X11_isOne a1 h) (va_cwS 1 ht (G_S q_1342 q_1343 q_56 q_1344) rfl rfl rfl hd_91 ⟨Nat.le_of_ble_eq_true rfl, Nat.le_of_ble_eq_true rfl⟩) ⟨PM_blind, PM_pre⟩ rfl rfl hl.1 rfl (lv_room (Nat.le_of_ble_eq_true rfl)) dX11_takes_2 ⟨show 0 + 0 ≤ 0 by omega, show 0 + 0 ≤ 0 by omega⟩) (fun r1 h => ?_)
  refine lv_iload_n hx hb dX11_takes_5 rfl (lv_at hl 2 rfl) ?_
  refine lv_iload_n hx hb dX11_takes_6 rfl (lv_at hl 3 rfl) ?_
  refine P_calli (va_runS (own := "LeastreaderModel") (As := [.int a2, .int a3]) (rest := [.int r1, .ref (ad 0)]) ⟨hx, hb, hml, hown, ht⟩ (c_X11_isWord a2 a3 h) (va_cwS 2 ht (G_S q_1506 q_1507 q_56 q_1508) rfl rfl rfl hd_107 ⟨Nat.le_of_ble_eq_true rfl, Nat.le_of_ble_eq_true rfl⟩) ⟨PM_blind, PM_pre⟩ rfl rfl hl.1 rfl (lv_room (Nat.le_of_ble_eq_true rfl)) dX11_takes_7 ⟨show 0 + 0 ≤ 0 by omega, show 0 + 0 ≤ 0 by omega⟩) (fun r2 h => ?_)
  refine M_calli hw (MA.up hw.2.2.1.1) (va_runV (own := "LeastreaderModel") (As := [.int r1, .int r2]) (rest := []) ⟨hx, hb, hml, hown, ht⟩ (c_X11_isThrown μ H.size r1 r2 h) (cwV 2 ht (G_V q_1348 q_1350 q_26 q_56 q_1351) rfl rfl rfl ⟨rfl, hd_92⟩ ⟨Nat.le_of_ble_eq_true rfl, Nat.le_of_ble_eq_true rfl⟩) ⟨MB.blind, M_recv hK hw, MB.pre hK hI hw va_P0 ne0⟩ rfl rfl hl.1 rfl (lv_room (Nat.le_of_ble_eq_true rfl)) dX11_takes_10 ⟨show 0 + 0 ≤ 0 by omega, show 0 + 0 ≤ 0 by omega⟩) (fun r4 μ3 H locs h hw => ?_)
  refine lv_if_ne (tgt := 37) hx hb dX11_takes_13 (by decide) (fun c5 => ?_) (fun c5 => ?_)
  · have h := h.1 c5
    refine lv_iconst (v := (0 : Int32)) hx hb dX11_takes_37 (by decide) ?_
    exact hret H locs ls 38 _ _ _ _ _ hw h rfl (show 0 ≤ 0 by omega) (show 0 ≤ 0 by omega) dX11_takes_38
  have h := h.2 c5
  refine lv_aload_n hx hb dX11_takes_16 rfl (lv_at hl 0 rfl) ?_
  refine lv_iload_n hx hb dX11_takes_17 rfl (lv_at hl 1 rfl) ?_
  refine lv_iload_n hx hb dX11_takes_18 rfl (lv_at hl 2 rfl) ?_
  refine lv_iload_n hx hb dX11_takes_19 rfl (lv_at hl 3 rfl) ?_
  refine M_calli hw (MA.up hw.2.2.1.1) (va_runV (own := "LeastreaderModel") (As := [.int a1, .int a2, .int a3]) (rest := []) ⟨hx, hb, hml, hown, ht⟩ (c_X11_setAfter μ3 H.size a1 a2 a3 h) (cwV 3 ht (G_V q_1512 q_1514 q_41 q_56 q_1515) rfl rfl rfl ⟨rfl, hd_108⟩ ⟨Nat.le_of_ble_eq_true rfl, Nat.le_of_ble_eq_true rfl⟩) ⟨MB.blind, M_recv hK hw, MB.pre hK hI hw va_P0 ne0⟩ rfl rfl hl.1 rfl (lv_room (Nat.le_of_ble_eq_true rfl)) dX11_takes_20 ⟨show 0 + 0 ≤ 0 by omega, show 0 + 0 ≤ 0 by omega⟩) (fun r8 μ6 H locs h hw => ?_)
  obtain ⟨e7, h⟩ := h
  rw [e7] at hw
  refine lv_aload_n hx hb dX11_takes_23 rfl (lv_at hl 0 rfl) ?_
  refine m_get (i := 2) hx hb ht hown hK hw (by decide) (ht _ q_1315) rfl rfl dX11_takes_24 ?_
  refine lv_iload_n hx hb dX11_takes_27 rfl (lv_at hl 1 rfl) ?_
  obtain ⟨z9, h⟩ := h
  refine m_iald hx hb hK hw (by decide) z9 dX11_takes_28 ?_
  refine lv_iand hx hb dX11_takes_29 ?_
  refine lv_if_eq (tgt := 37) hx hb dX11_takes_30 (by decide) (fun c10 => ?_) (fun c10 => ?_)
  · have h := h.1 c10
    refine lv_iconst (v := (0 : Int32)) hx hb dX11_takes_37 (by decide) ?_
    exact hret H locs ls 38 _ _ _ _ _ hw h rfl (show 0 ≤ 0 by omega) (show 0 ≤ 0 by omega) dX11_takes_38
  have h := h.2 c10
  refine lv_iconst (v := (1 : Int32)) hx hb dX11_takes_33 (by decide) ?_
  refine lv_goto (tgt := 38) hx hb dX11_takes_34 (by decide) ?_
  exact hret H locs ls 38 _ _ _ _ _ hw h rfl (show 0 ≤ 0 by omega) (show 0 ≤ 0 by omega) dX11_takes_38
def wpl_X11_after_88 (μ16 : TMem) (v23 : Int32) (Q : Int32 → TMem → Prop) : Nat → Int32 → Int32 → Int32 → Prop
  | 0, _, _, _ => False
  | n + 1, v20, v21, v22 =>
    (v23 ≤ v20 → (Q v22 μ16)) ∧ (¬ v23 ≤ v20 → (False))
def wpl_X11_after_88_28 (μ26 : TMem) (f15 : Nat → Int32) (n14 : Nat) (v33 : Int32) (Q : Int32 → TMem → Prop) : Nat → Int32 → Int32 → Int32 → Prop
  | 0, _, _, _ => False
  | n + 1, v30, v31, v32 =>
    (v33 ≤ v30 → (Q v32 μ26)) ∧ (¬ v33 ≤ v30 → (vp_in (((4 : Int32) * v32) + (v31 - v31 / (3 : Int32) * (3 : Int32))) n14 ∧ (wpl_X11_after_88_28 μ26 f15 n14 v33 Q n (v30 + (1 : Int32)) (v31 / (3 : Int32)) (f15 (((4 : Int32) * v32) + (v31 - v31 / (3 : Int32) * (3 : Int32))).toNatClampNeg))))
def wp_X11_after (μ : TMem) (a1 : Int32) (a2 : Int32) (a3 : Int32) (a4 : Int32) (Q : Int32 → TMem → Prop) : Prop :=
  wp_X11_isOne a1 (fun (r1 : Int32) => wp_X11_isWord a2 a3 (fun (r2 : Int32) => ∀ J3 : Int32 → Prop, (∀ (j4 : Int32), (wp_X11_isThrown μ r1 j4 (fun (r6 : Int32) (μ5 : TMem) => (r6 = 0 → ((¬ a4 = 0 → (∀ J9 : Int32 → Prop, (∀ (j10 : Int32), (wp_X11_found μ5 a1 j10 (fun (r37 : Option AI) => (r37 = none → (wp_X11_isCrowded_n μ5 (3 : Int32) (fun (r17 : Int32) (μ16 : TMem) => (r17 = 0 → (∃ n18x, wpl_X11_after_88 μ16 a2 Q n18x (0 : Int32) a3 (0 : Int32))) ∧ (¬ r17 = 0 → (Q (0 : Int32) μ16))))) ∧ (∀ (n14 : Nat) (f15 : Nat → Int32), r37 = some (n14, f15) → (wp_X11_isCrowded μ5 n14 f15 (3 : Int32) (fun (r27 : Int32) (μ26 : TMem) => (r27 = 0 → (∃ n28x, wpl_X11_after_88_28 μ26 f15 n14 a2 Q n28x (0 : Int32) a3 (0 : Int32))) ∧ (¬ r27 = 0 → (Q (0 : Int32) μ26))))))) → J9 j10) → ((¬ a4 = (1 : Int32) → (J9 (0 : Int32))) ∧ (a4 = (1 : Int32) → (J9 (3 : Int32)))))) ∧ (a4 = 0 → (wp_X11_setAfter μ5 a1 a2 a3 (fun (r41 : Int32) => Q r41 μ5))))) ∧ (¬ r6 = 0 → (Q (0 : Int32) μ5)))) → J3 j4) → ((r2 = 0 → (J3 (0 : Int32))) ∧ (¬ r2 = 0 → (wp_X11_isIn a4 (0 : Int32) (2 : Int32) (fun (r43 : Int32) => (r43 = 0 → (J3 (0 : Int32))) ∧ (¬ r43 = 0 → (J3 (1 : Int32)))))))))
set_option maxHeartbeats 4000000 in
set_option maxRecDepth 100000 in
theorem c_X11_after {l : Launch} {D : va_G} {ad : Nat → Nat} {cI cL : ClassId}  (μ : TMem) (sz : Nat) (a1 : Int32) (a2 : Int32) (a3 : Int32) (a4 : Int32)  {Q : Int32 → TMem → Prop} (h : wp_X11_after μ a1 a2 a3 a4 Q) : MMi l yX11_after (.code yX11_after cX11_after 9 (Option.some Jvm.ClassFile.FieldType.int)) 4 41 1685 [.ref (ad 0), .int a1, .int a2, .int a3, .int a4] D ad cI cL sz μ [] Q := by
  refine M_meti (by decide +kernel) (Nat.le_of_ble_eq_true rfl) ?_
  intro p e s m below meth c Z ls hx hb hml hown ht hK hP0 hI hne hw hret hl
  have hl : lv_has ls 9 [(0, .ref (ad 0)), (1, .int a1), (2, .int a2), (3, .int a3), (4, .int a4)] := hl
  suffices hh : ∀ (H : Heap) (locs : List Loc), MW D (MR ad cI μ) [] (MA ad s.heap.size) s H locs → W p l e (RA 4 41 1685) s m #[.ref (ad 0), .int a1, .int a2, .int a3, .int a4] below meth c H locs 0 0 Z (F0 m 0 ls []) from hh _ _ hw
  intro H locs hw
  change wp_X11_isOne a1 (fun (r1 : Int32) => wp_X11_isWord a2 a3 (fun (r2 : Int32) => ∀ J3 : Int32 → Prop, (∀ (j4 : Int32), (wp_X11_isThrown μ r1 j4 (fun (r6 : Int32) (μ5 : TMem) => (r6 = 0 → ((¬ a4 = 0 → (∀ J9 : Int32 → Prop, (∀ (j10 : Int32), (wp_X11_found μ5 a1 j10 (fun (r37 : Option AI) => (r37 = none → (wp_X11_isCrowded_n μ5 (3 : Int32) (fun (r17 : Int32) (μ16 : TMem) => (r17 = 0 → (∃ n18x, wpl_X11_after_88 μ16 a2 Q n18x (0 : Int32) a3 (0 : Int32))) ∧ (¬ r17 = 0 → (Q (0 : Int32) μ16))))) ∧ (∀ (n14 : Nat) (f15 : Nat → Int32), r37 = some (n14, f15) → (wp_X11_isCrowded μ5 n14 f15 (3 : Int32) (fun (r27 : Int32) (μ26 : TMem) => (r27 = 0 → (∃ n28x, wpl_X11_after_88_28 μ26 f15 n14 a2 Q n28x (0 : Int32) a3 (0 : Int32))) ∧ (¬ r27 = 0 → (Q (0 : Int32) μ26))))))) → J9 j10) → ((¬ a4 = (1 : Int32) → (J9 (0 : Int32))) ∧ (a4 = (1 : Int32) → (J9 (3 : Int32)))))) ∧ (a4 = 0 → (wp_X11_setAfter μ5 a1 a2 a3 (fun (r41 : Int32) => Q r41 μ5))))) ∧ (¬ r6 = 0 → (Q (0 : Int32) μ5)))) → J3 j4) → ((r2 = 0 → (J3 (0 : Int32))) ∧ (¬ r2 = 0 → (wp_X11_isIn a4 (0 : Int32) (2 : Int32) (fun (r43 : Int32) => (r43 = 0 → (J3 (0 : Int32))) ∧ (¬ r43 = 0 → (J3 (1 : Int32))))))))) at h
  refine lv_aload_n hx hb dX11_after_0 rfl (lv_at hl 0 rfl) ?_
  refine lv_iload_n hx hb dX11_after_1 rfl (lv_at hl 1 rfl) ?_
  refine P_calli (va_runS (own := "LeastreaderModel") (As := [.int a1]) (rest := [.ref (ad 0)]) ⟨hx, hb, hml, hown, ht⟩ (c_X11_isOne a1 h) (va_cwS 1 ht (G_S q_1342 q_1343 q_56 q_1344) rfl rfl rfl hd_91 ⟨Nat.le_of_ble_eq_true rfl, Nat.le_of_ble_eq_true rfl⟩) ⟨PM_blind, PM_pre⟩ rfl rfl hl.1 rfl (lv_room (Nat.le_of_ble_eq_true rfl)) dX11_after_2 ⟨show 0 + 0 ≤ 41 by omega, show 0 + 0 ≤ 1685 by omega⟩) (fun r1 h => ?_)
  refine lv_iload_n hx hb dX11_after_5 rfl (lv_at hl 2 rfl) ?_
  refine lv_iload_n hx hb dX11_after_6 rfl (lv_at hl 3 rfl) ?_
  refine P_calli (va_runS (own := "LeastreaderModel") (As := [.int a2, .int a3]) (rest := [.int r1, .ref (ad 0)]) ⟨hx, hb, hml, hown, ht⟩ (c_X11_isWord a2 a3 h) (va_cwS 2 ht (G_S q_1506 q_1507 q_56 q_1508) rfl rfl rfl hd_107 ⟨Nat.le_of_ble_eq_true rfl, Nat.le_of_ble_eq_true rfl⟩) ⟨PM_blind, PM_pre⟩ rfl rfl hl.1 rfl (lv_room (Nat.le_of_ble_eq_true rfl)) dX11_after_7 ⟨show 0 + 0 ≤ 41 by omega, show 0 + 0 ≤ 1685 by omega⟩) (fun r2 h => ?_)
  have h := h (fun (j4 : Int32) => ∀ (H : Heap) (locs : List Loc) (ls : Array Slot), MW D (MR ad cI μ) [] (MA ad s.heap.size) s H locs → lv_has ls 9 [(0, .ref (ad 0)), (1, .int a1), (2, .int a2), (3, .int a3), (4, .int a4)] → W p l e (RA 4 41 1685) s m #[.ref (ad 0), .int a1, .int a2, .int a3, .int a4] below meth c H locs 0 0 Z (F0 m 28 ls [.int j4, .int r1, .ref (ad 0)])) (fun j4 h H locs ls hw hl => by
    refine M_calli hw (MA.up hw.2.2.1.1) (va_runV (own := "LeastreaderModel") (As := [.int r1, .int j4]) (rest := []) ⟨hx, hb, hml, hown, ht⟩ (c_X11_isThrown μ H.size r1 j4 h) (cwV 2 ht (G_V q_1348 q_1350 q_26 q_56 q_1351) rfl rfl rfl ⟨rfl, hd_92⟩ ⟨Nat.le_of_ble_eq_true rfl, Nat.le_of_ble_eq_true rfl⟩) ⟨MB.blind, M_recv hK hw, MB.pre hK hI hw va_P0 ne0⟩ rfl rfl hl.1 rfl (lv_room (Nat.le_of_ble_eq_true rfl)) dX11_after_28 ⟨show 0 + 0 ≤ 41 by omega, show 0 + 0 ≤ 1685 by omega⟩) (fun r6 μ5 H locs h hw => ?_)
    refine lv_if_eq (tgt := 36) hx hb dX11_after_31 (by decide) (fun c7 => ?_) (fun c7 => ?_)
    · have h := h.1 c7
      refine lv_iload hx hb dX11_after_36 (lv_at hl 4 rfl) ?_
      refine lv_if_ne (tgt := 49) hx hb dX11_after_38 (by decide) (fun c8 => ?_) (fun c8 => ?_)
      · have h := h.1 c8
        refine lv_aload_n hx hb dX11_after_49 rfl (lv_at hl 0 rfl) ?_
        refine lv_iload_n hx hb dX11_after_50 rfl (lv_at hl 1 rfl) ?_
        refine lv_iload hx hb dX11_after_51 (lv_at hl 4 rfl) ?_
        refine lv_iconst (v := (1 : Int32)) hx hb dX11_after_53 (by decide) ?_
        have h := h (fun (j10 : Int32) => ∀ (H : Heap) (locs : List Loc) (ls : Array Slot), MW D (MR ad cI μ5) [] (MA ad s.heap.size) s H locs → lv_has ls 9 [(0, .ref (ad 0)), (2, .int a2), (3, .int a3)] → W p l e (RA 4 41 1685) s m #[.ref (ad 0), .int a1, .int a2, .int a3, .int a4] below meth c H locs 0 0 Z (F0 m 62 ls [.int j10, .int a1, .ref (ad 0)])) (fun j10 h H locs ls hw hl => by
          refine M_callA hw (MA.up hw.2.2.1.1) (va_runV (own := "LeastreaderModel") (As := [.int a1, .int j10]) (rest := []) ⟨hx, hb, hml, hown, ht⟩ (c_X11_found μ5 H.size a1 j10 h) (cwV 2 ht (G_V q_1448 q_1450 q_36 q_56 q_1451) rfl rfl rfl ⟨rfl, hd_103⟩ ⟨Nat.le_of_ble_eq_true rfl, Nat.le_of_ble_eq_true rfl⟩) ⟨MB.blind, M_recv hK hw, MB.pre hK hI hw va_P0 ne0⟩ rfl rfl hl.1 rfl (lv_room (Nat.le_of_ble_eq_true rfl)) dX11_after_62 ⟨show 0 + 41 ≤ 41 by omega, show 0 + 1685 ≤ 1685 by omega⟩) (fun μ11 H locs h hw => ?_) (fun q13 n14 f15 μ11 H locs hq13 h hw => ?_)
          · skip
            obtain ⟨e12, h⟩ := h
            rw [e12] at hw
            have h := h.1 rfl
            refine lv_astoreN (lv' := [(5, .null), (0, .ref (ad 0)), (2, .int a2), (3, .int a3)]) hx hb dX11_after_65 hl (by decide) rfl (fun ls hl => ?_)
            refine lv_aload_n hx hb dX11_after_67 rfl (lv_at hl 1 rfl) ?_
            refine lv_aloadN hx hb dX11_after_68 (lv_at hl 0 rfl) ?_
            refine lv_iconst (v := (3 : Int32)) hx hb dX11_after_70 (by decide) ?_
            refine M_calli hw (MA.up hw.2.2.1.1) (va_runV (own := "LeastreaderModel") (As := [.null, .int (3 : Int32)]) (rest := []) ⟨hx, hb, hml, hown, ht⟩ (c_X11_isCrowded_n μ5 H.size (3 : Int32) h) (cwV 2 ht (G_V q_1520 q_1522 q_42 q_56 q_1523) rfl rfl rfl ⟨rfl, hd_109⟩ ⟨Nat.le_of_ble_eq_true rfl, Nat.le_of_ble_eq_true rfl⟩) ⟨MB.blind, M_recv hK hw, MB.pre hK hI hw va_P0 ne0⟩ rfl rfl hl.1 rfl (lv_room (Nat.le_of_ble_eq_true rfl)) dX11_after_71 ⟨show 41 + 0 ≤ 41 by omega, show 1685 + 0 ≤ 1685 by omega⟩) (fun r17 μ16 H locs h hw => ?_)
            refine lv_if_eq (tgt := 79) hx hb dX11_after_74 (by decide) (fun c18 => ?_) (fun c18 => ?_)
            · have h := h.1 c18
              refine lv_iconst (v := (0 : Int32)) hx hb dX11_after_79 (by decide) ?_
              refine lv_istore (lv' := [(6, .int (0 : Int32)), (5, .null), (0, .ref (ad 0)), (2, .int a2), (3, .int a3)]) hx hb dX11_after_80 hl (by decide) rfl (fun ls hl => ?_)
              refine lv_iload_n hx hb dX11_after_82 rfl (lv_at hl 4 rfl) ?_
              refine lv_istore (lv' := [(7, .int a3), (6, .int (0 : Int32)), (5, .null), (0, .ref (ad 0)), (2, .int a2), (3, .int a3)]) hx hb dX11_after_83 hl (by decide) rfl (fun ls hl => ?_)
              refine lv_iconst (v := (0 : Int32)) hx hb dX11_after_85 (by decide) ?_
              refine lv_istore (lv' := [(8, .int (0 : Int32)), (7, .int a3), (6, .int (0 : Int32)), (5, .null), (0, .ref (ad 0)), (2, .int a2), (3, .int a3)]) hx hb dX11_after_86 hl (by decide) rfl (fun ls hl => ?_)
              obtain ⟨n25, h⟩ := h
              have L18 : ∀ (v23 : Int32), ∀ (n : Nat), ∀ (v20 : Int32) (v21 : Int32) (v22 : Int32), ∀ (H : Heap) (locs : List Loc) (ls : Array Slot), MW D (MR ad cI μ16) [] (MA ad s.heap.size) s H locs → lv_has ls 9 [(8, .int v20), (7, .int v21), (6, .int v22), (5, .null), (2, .int v23)] → wpl_X11_after_88 μ16 v23 Q n v20 v21 v22 → W p l e (RA 4 41 1685) s m #[.ref (ad 0), .int a1, .int a2, .int a3, .int a4] below meth c H locs 41 1685 Z (F0 m 88 ls []) := by
                intro v23
                intro n
                induction n with
                | zero => intro v20 v21 v22 H locs ls hw hl h; exact False.elim h
                | succ n ih18 =>
                  intro v20 v21 v22 H locs ls hw hl h
                  change (v23 ≤ v20 → (Q v22 μ16)) ∧ (¬ v23 ≤ v20 → (False)) at h
                  refine lv_iload hx hb dX11_after_88 (lv_at hl 0 rfl) ?_
                  refine lv_iload_n hx hb dX11_after_90 rfl (lv_at hl 4 rfl) ?_
                  refine lv_icmp_ge (tgt := 120) hx hb dX11_after_91 (by decide) (fun c24 => ?_) (fun c24 => ?_)
                  · have h := h.1 c24
                    refine lv_iload hx hb dX11_after_120 (lv_at hl 2 rfl) ?_
                    exact hret H locs ls 122 _ _ _ _ _ hw h rfl (show 41 ≤ 41 by omega) (show 1685 ≤ 1685 by omega) dX11_after_122
                  have h := h.2 c24
                  refine lv_aloadN hx hb dX11_after_94 (lv_at hl 3 rfl) ?_
                  refine lv_iconst (v := (4 : Int32)) hx hb dX11_after_96 (by decide) ?_
                  refine lv_iload hx hb dX11_after_97 (lv_at hl 2 rfl) ?_
                  refine lv_imul hx hb dX11_after_99 ?_
                  refine lv_iload hx hb dX11_after_100 (lv_at hl 1 rfl) ?_
                  refine lv_iconst (v := (3 : Int32)) hx hb dX11_after_102 (by decide) ?_
                  refine lv_irem hx hb dX11_after_103 (by decide) ?_
                  refine lv_iadd hx hb dX11_after_104 ?_
                  exact False.elim h
              exact L18 a2 n25 (0 : Int32) a3 (0 : Int32) H locs ls hw (lv_sub hl [0, 1, 2, 3, 5] rfl) h
            have h := h.2 c18
            refine lv_iconst (v := (0 : Int32)) hx hb dX11_after_77 (by decide) ?_
            exact hret H locs ls 78 _ _ _ _ _ hw h rfl (show 41 ≤ 41 by omega) (show 1685 ≤ 1685 by omega) dX11_after_78
          obtain ⟨e12, h⟩ := h
          rw [e12] at hw
          have h := h.2 _ _ rfl
          have hw : MW D (MR ad cI μ5) [eI cI q13 n14 f15] (MA ad s.heap.size) s H locs := hw
          refine lv_astore (lv' := [(5, .ref q13), (0, .ref (ad 0)), (2, .int a2), (3, .int a3)]) hx hb dX11_after_65 hl (by decide) rfl (fun ls hl => ?_)
          refine lv_aload_n hx hb dX11_after_67 rfl (lv_at hl 1 rfl) ?_
          refine lv_aload hx hb dX11_after_68 (lv_at hl 0 rfl) ?_
          refine lv_iconst (v := (3 : Int32)) hx hb dX11_after_70 (by decide) ?_
          refine M_calli hw (MA.up hw.2.2.1.1) (va_runV (own := "LeastreaderModel") (As := [.ref q13, .int (3 : Int32)]) (rest := []) ⟨hx, hb, hml, hown, ht⟩ (c_X11_isCrowded q13 μ5 H.size n14 f15 (3 : Int32) h) (cwV 2 ht (G_V q_1520 q_1522 q_42 q_56 q_1523) rfl rfl rfl ⟨rfl, hd_109⟩ ⟨Nat.le_of_ble_eq_true rfl, Nat.le_of_ble_eq_true rfl⟩) ⟨MB.blind, M_recv hK hw, MB.pre hK hI hw (va_Pc2 (hw.n (j := 0) rfl) va_P0) (neC (hw.ne (j := 0) rfl) ne0)⟩ rfl rfl hl.1 rfl (lv_room (Nat.le_of_ble_eq_true rfl)) dX11_after_71 ⟨show 41 + 0 ≤ 41 by omega, show 1685 + 0 ≤ 1685 by omega⟩) (fun r27 μ26 H locs h hw => ?_)
          refine lv_if_eq (tgt := 79) hx hb dX11_after_74 (by decide) (fun c28 => ?_) (fun c28 => ?_)
          · have h := h.1 c28
            refine lv_iconst (v := (0 : Int32)) hx hb dX11_after_79 (by decide) ?_
            refine lv_istore (lv' := [(6, .int (0 : Int32)), (5, .ref q13), (0, .ref (ad 0)), (2, .int a2), (3, .int a3)]) hx hb dX11_after_80 hl (by decide) rfl (fun ls hl => ?_)
            refine lv_iload_n hx hb dX11_after_82 rfl (lv_at hl 4 rfl) ?_
            refine lv_istore (lv' := [(7, .int a3), (6, .int (0 : Int32)), (5, .ref q13), (0, .ref (ad 0)), (2, .int a2), (3, .int a3)]) hx hb dX11_after_83 hl (by decide) rfl (fun ls hl => ?_)
            refine lv_iconst (v := (0 : Int32)) hx hb dX11_after_85 (by decide) ?_
            refine lv_istore (lv' := [(8, .int (0 : Int32)), (7, .int a3), (6, .int (0 : Int32)), (5, .ref q13), (0, .ref (ad 0)), (2, .int a2), (3, .int a3)]) hx hb dX11_after_86 hl (by decide) rfl (fun ls hl => ?_)
            obtain ⟨n36, h⟩ := h
            have L28 : ∀ (v33 : Int32), ∀ (n : Nat), ∀ (v30 : Int32) (v31 : Int32) (v32 : Int32), ∀ (H : Heap) (locs : List Loc) (ls : Array Slot), MW D (MR ad cI μ26) [eI cI q13 n14 f15] (MA ad s.heap.size) s H locs → lv_has ls 9 [(8, .int v30), (7, .int v31), (6, .int v32), (5, .ref q13), (2, .int v33)] → wpl_X11_after_88_28 μ26 f15 n14 v33 Q n v30 v31 v32 → W p l e (RA 4 41 1685) s m #[.ref (ad 0), .int a1, .int a2, .int a3, .int a4] below meth c H locs 41 1685 Z (F0 m 88 ls []) := by
              intro v33
              intro n
              induction n with
              | zero => intro v30 v31 v32 H locs ls hw hl h; exact False.elim h
              | succ n ih28 =>
                intro v30 v31 v32 H locs ls hw hl h
                change (v33 ≤ v30 → (Q v32 μ26)) ∧ (¬ v33 ≤ v30 → (vp_in (((4 : Int32) * v32) + (v31 - v31 / (3 : Int32) * (3 : Int32))) n14 ∧ (wpl_X11_after_88_28 μ26 f15 n14 v33 Q n (v30 + (1 : Int32)) (v31 / (3 : Int32)) (f15 (((4 : Int32) * v32) + (v31 - v31 / (3 : Int32) * (3 : Int32))).toNatClampNeg)))) at h
                refine lv_iload hx hb dX11_after_88 (lv_at hl 0 rfl) ?_
                refine lv_iload_n hx hb dX11_after_90 rfl (lv_at hl 4 rfl) ?_
                refine lv_icmp_ge (tgt := 120) hx hb dX11_after_91 (by decide) (fun c34 => ?_) (fun c34 => ?_)
                · have h := h.1 c34
                  refine lv_iload hx hb dX11_after_120 (lv_at hl 2 rfl) ?_
                  exact hret H locs ls 122 _ _ _ _ _ hw h rfl (show 41 ≤ 41 by omega) (show 1685 ≤ 1685 by omega) dX11_after_122
                have h := h.2 c34
                refine lv_aload hx hb dX11_after_94 (lv_at hl 3 rfl) ?_
                refine lv_iconst (v := (4 : Int32)) hx hb dX11_after_96 (by decide) ?_
                refine lv_iload hx hb dX11_after_97 (lv_at hl 2 rfl) ?_
                refine lv_imul hx hb dX11_after_99 ?_
                refine lv_iload hx hb dX11_after_100 (lv_at hl 1 rfl) ?_
                refine lv_iconst (v := (3 : Int32)) hx hb dX11_after_102 (by decide) ?_
                refine lv_irem hx hb dX11_after_103 (by decide) ?_
                refine lv_iadd hx hb dX11_after_104 ?_
                obtain ⟨z35, h⟩ := h
                refine n_iald hx hb hK (hw.n (j := 0) rfl) z35 dX11_after_105 ?_
                refine lv_istore (lv' := [(6, .int (f15 (((4 : Int32) * v32) + (v31 - v31 / (3 : Int32) * (3 : Int32))).toNatClampNeg)), (8, .int v30), (7, .int v31), (5, .ref q13), (2, .int v33)]) hx hb dX11_after_106 hl (by decide) rfl (fun ls hl => ?_)
                refine lv_iload hx hb dX11_after_108 (lv_at hl 2 rfl) ?_
                refine lv_iconst (v := (3 : Int32)) hx hb dX11_after_110 (by decide) ?_
                refine lv_idiv hx hb dX11_after_111 (by decide) ?_
                refine lv_istore (lv' := [(7, .int (v31 / (3 : Int32))), (6, .int (f15 (((4 : Int32) * v32) + (v31 - v31 / (3 : Int32) * (3 : Int32))).toNatClampNeg)), (8, .int v30), (5, .ref q13), (2, .int v33)]) hx hb dX11_after_112 hl (by decide) rfl (fun ls hl => ?_)
                refine lv_iinc (v := (v30 + (1 : Int32))) (lv' := [(8, .int (v30 + (1 : Int32))), (7, .int (v31 / (3 : Int32))), (6, .int (f15 (((4 : Int32) * v32) + (v31 - v31 / (3 : Int32) * (3 : Int32))).toNatClampNeg)), (5, .ref q13), (2, .int v33)]) hx hb dX11_after_114 hl (k := 2) rfl rfl (by decide) rfl (fun ls hl => ?_)
                refine lv_goto (tgt := 88) hx hb dX11_after_117 (by decide) ?_
                exact ih28 (v30 + (1 : Int32)) (v31 / (3 : Int32)) (f15 (((4 : Int32) * v32) + (v31 - v31 / (3 : Int32) * (3 : Int32))).toNatClampNeg) H locs ls hw (lv_sub hl [0, 1, 2, 3, 4] rfl) h
            exact L28 a2 n36 (0 : Int32) a3 (0 : Int32) H locs ls hw (lv_sub hl [0, 1, 2, 3, 5] rfl) h
          have h := h.2 c28
          refine lv_iconst (v := (0 : Int32)) hx hb dX11_after_77 (by decide) ?_
          exact hret H locs ls 78 _ _ _ _ _ hw h rfl (show 41 ≤ 41 by omega) (show 1685 ≤ 1685 by omega) dX11_after_78)
        refine lv_icmp_ne (tgt := 61) hx hb dX11_after_54 (by decide) (fun c38 => ?_) (fun c38 => ?_)
        · have h := h.1 c38
          refine lv_iconst (v := (0 : Int32)) hx hb dX11_after_61 (by decide) ?_
          exact h H locs ls hw (lv_sub hl [0, 2, 3] rfl)
        have h := h.2 c38
        refine lv_iconst (v := (3 : Int32)) hx hb dX11_after_57 (by decide) ?_
        refine lv_goto (tgt := 62) hx hb dX11_after_58 (by decide) ?_
        exact h H locs ls hw (lv_sub hl [0, 2, 3] rfl)
      have h := h.2 c8
      refine lv_aload_n hx hb dX11_after_41 rfl (lv_at hl 0 rfl) ?_
      refine lv_iload_n hx hb dX11_after_42 rfl (lv_at hl 1 rfl) ?_
      refine lv_iload_n hx hb dX11_after_43 rfl (lv_at hl 2 rfl) ?_
      refine lv_iload_n hx hb dX11_after_44 rfl (lv_at hl 3 rfl) ?_
      refine M_calli hw (MA.up hw.2.2.1.1) (va_runV (own := "LeastreaderModel") (As := [.int a1, .int a2, .int a3]) (rest := []) ⟨hx, hb, hml, hown, ht⟩ (c_X11_setAfter μ5 H.size a1 a2 a3 h) (cwV 3 ht (G_V q_1512 q_1514 q_41 q_56 q_1515) rfl rfl rfl ⟨rfl, hd_108⟩ ⟨Nat.le_of_ble_eq_true rfl, Nat.le_of_ble_eq_true rfl⟩) ⟨MB.blind, M_recv hK hw, MB.pre hK hI hw va_P0 ne0⟩ rfl rfl hl.1 rfl (lv_room (Nat.le_of_ble_eq_true rfl)) dX11_after_45 ⟨show 0 + 0 ≤ 41 by omega, show 0 + 0 ≤ 1685 by omega⟩) (fun r41 μ39 H locs h hw => ?_)
      obtain ⟨e40, h⟩ := h
      rw [e40] at hw
      exact hret H locs ls 48 _ _ _ _ _ hw h rfl (show 0 ≤ 41 by omega) (show 0 ≤ 1685 by omega) dX11_after_48
    have h := h.2 c7
    refine lv_iconst (v := (0 : Int32)) hx hb dX11_after_34 (by decide) ?_
    exact hret H locs ls 35 _ _ _ _ _ hw h rfl (show 0 ≤ 41 by omega) (show 0 ≤ 1685 by omega) dX11_after_35)
  refine lv_if_eq (tgt := 27) hx hb dX11_after_10 (by decide) (fun c42 => ?_) (fun c42 => ?_)
  · have h := h.1 c42
    refine lv_iconst (v := (0 : Int32)) hx hb dX11_after_27 (by decide) ?_
    exact h H locs ls hw (lv_sub hl [0, 1, 2, 3, 4] rfl)
  have h := h.2 c42
  refine lv_iload hx hb dX11_after_13 (lv_at hl 4 rfl) ?_
  refine lv_iconst (v := (0 : Int32)) hx hb dX11_after_15 (by decide) ?_
  refine lv_iconst (v := (2 : Int32)) hx hb dX11_after_16 (by decide) ?_
  refine P_calli (va_runS (own := "LeastreaderModel") (As := [.int a4, .int (0 : Int32), .int (2 : Int32)]) (rest := [.int r1, .ref (ad 0)]) ⟨hx, hb, hml, hown, ht⟩ (c_X11_isIn a4 (0 : Int32) (2 : Int32) h) (va_cwS 3 ht (G_S q_1345 q_1346 q_56 q_1347) rfl rfl rfl hd_78 ⟨Nat.le_of_ble_eq_true rfl, Nat.le_of_ble_eq_true rfl⟩) ⟨PM_blind, PM_pre⟩ rfl rfl hl.1 rfl (lv_room (Nat.le_of_ble_eq_true rfl)) dX11_after_17 ⟨show 0 + 0 ≤ 41 by omega, show 0 + 0 ≤ 1685 by omega⟩) (fun r43 h => ?_)
  refine lv_if_eq (tgt := 27) hx hb dX11_after_20 (by decide) (fun c44 => ?_) (fun c44 => ?_)
  · have h := h.1 c44
    refine lv_iconst (v := (0 : Int32)) hx hb dX11_after_27 (by decide) ?_
    exact h H locs ls hw (lv_sub hl [0, 1, 2, 3, 4] rfl)
  have h := h.2 c44
  refine lv_iconst (v := (1 : Int32)) hx hb dX11_after_23 (by decide) ?_
  refine lv_goto (tgt := 28) hx hb dX11_after_24 (by decide) ?_
  exact h H locs ls hw (lv_sub hl [0, 1, 2, 3, 4] rfl)
end
/-! part 73.r12 -/
section
def wp_X11_size (μ : TMem) (a1 : Int32) (a2 : Int32) (Q : Int32 → TMem → Prop) : Prop :=
  wp_X11_isOne a1 (fun (r1 : Int32) => wp_X11_isIn a2 (0 : Int32) (3 : Int32) (fun (r2 : Int32) => wp_X11_isThrown μ r1 r2 (fun (r4 : Int32) (μ3 : TMem) => (r4 = 0 → (wp_X11_found μ3 a1 a2 (fun (r17 : Option AI) => (r17 = none → (wp_X11_isCrowded_n μ3 (3 : Int32) (fun (r12 : Int32) (μ11 : TMem) => (r12 = 0 → (False)) ∧ (¬ r12 = 0 → (Q (0 : Int32) μ11))))) ∧ (∀ (n9 : Nat) (f10 : Nat → Int32), r17 = some (n9, f10) → (wp_X11_isCrowded μ3 n9 f10 (3 : Int32) (fun (r15 : Int32) (μ14 : TMem) => (r15 = 0 → (Q ((nI n9) / (4 : Int32)) μ14)) ∧ (¬ r15 = 0 → (Q (0 : Int32) μ14)))))))) ∧ (¬ r4 = 0 → (Q (0 : Int32) μ3)))))
set_option maxHeartbeats 4000000 in
set_option maxRecDepth 100000 in
theorem c_X11_size {l : Launch} {D : va_G} {ad : Nat → Nat} {cI cL : ClassId}  (μ : TMem) (sz : Nat) (a1 : Int32) (a2 : Int32)  {Q : Int32 → TMem → Prop} (h : wp_X11_size μ a1 a2 Q) : MMi l yX11_size (.code yX11_size cX11_size 4 (Option.some Jvm.ClassFile.FieldType.int)) 4 41 1685 [.ref (ad 0), .int a1, .int a2] D ad cI cL sz μ [] Q := by
  refine M_meti (by decide +kernel) (Nat.le_of_ble_eq_true rfl) ?_
  intro p e s m below meth c Z ls hx hb hml hown ht hK hP0 hI hne hw hret hl
  have hl : lv_has ls 4 [(0, .ref (ad 0)), (1, .int a1), (2, .int a2)] := hl
  suffices hh : ∀ (H : Heap) (locs : List Loc), MW D (MR ad cI μ) [] (MA ad s.heap.size) s H locs → W p l e (RA 4 41 1685) s m #[.ref (ad 0), .int a1, .int a2] below meth c H locs 0 0 Z (F0 m 0 ls []) from hh _ _ hw
  intro H locs hw
  change wp_X11_isOne a1 (fun (r1 : Int32) => wp_X11_isIn a2 (0 : Int32) (3 : Int32) (fun (r2 : Int32) => wp_X11_isThrown μ r1 r2 (fun (r4 : Int32) (μ3 : TMem) => (r4 = 0 → (wp_X11_found μ3 a1 a2 (fun (r17 : Option AI) => (r17 = none → (wp_X11_isCrowded_n μ3 (3 : Int32) (fun (r12 : Int32) (μ11 : TMem) => (r12 = 0 → (False)) ∧ (¬ r12 = 0 → (Q (0 : Int32) μ11))))) ∧ (∀ (n9 : Nat) (f10 : Nat → Int32), r17 = some (n9, f10) → (wp_X11_isCrowded μ3 n9 f10 (3 : Int32) (fun (r15 : Int32) (μ14 : TMem) => (r15 = 0 → (Q ((nI n9) / (4 : Int32)) μ14)) ∧ (¬ r15 = 0 → (Q (0 : Int32) μ14)))))))) ∧ (¬ r4 = 0 → (Q (0 : Int32) μ3))))) at h
  refine lv_aload_n hx hb dX11_size_0 rfl (lv_at hl 0 rfl) ?_
  refine lv_iload_n hx hb dX11_size_1 rfl (lv_at hl 1 rfl) ?_
  refine P_calli (va_runS (own := "LeastreaderModel") (As := [.int a1]) (rest := [.ref (ad 0)]) ⟨hx, hb, hml, hown, ht⟩ (c_X11_isOne a1 h) (va_cwS 1 ht (G_S q_1342 q_1343 q_56 q_1344) rfl rfl rfl hd_91 ⟨Nat.le_of_ble_eq_true rfl, Nat.le_of_ble_eq_true rfl⟩) ⟨PM_blind, PM_pre⟩ rfl rfl hl.1 rfl (lv_room (Nat.le_of_ble_eq_true rfl)) dX11_size_2 ⟨show 0 + 0 ≤ 41 by omega, show 0 + 0 ≤ 1685 by omega⟩) (fun r1 h => ?_)
  refine lv_iload_n hx hb dX11_size_5 rfl (lv_at hl 2 rfl) ?_
  refine lv_iconst (v := (0 : Int32)) hx hb dX11_size_6 (by decide) ?_
  refine lv_iconst (v := (3 : Int32)) hx hb dX11_size_7 (by decide) ?_
  refine P_calli (va_runS (own := "LeastreaderModel") (As := [.int a2, .int (0 : Int32), .int (3 : Int32)]) (rest := [.int r1, .ref (ad 0)]) ⟨hx, hb, hml, hown, ht⟩ (c_X11_isIn a2 (0 : Int32) (3 : Int32) h) (va_cwS 3 ht (G_S q_1345 q_1346 q_56 q_1347) rfl rfl rfl hd_78 ⟨Nat.le_of_ble_eq_true rfl, Nat.le_of_ble_eq_true rfl⟩) ⟨PM_blind, PM_pre⟩ rfl rfl hl.1 rfl (lv_room (Nat.le_of_ble_eq_true rfl)) dX11_size_8 ⟨show 0 + 0 ≤ 41 by omega, show 0 + 0 ≤ 1685 by omega⟩) (fun r2 h => ?_)
  refine M_calli hw (MA.up hw.2.2.1.1) (va_runV (own := "LeastreaderModel") (As := [.int r1, .int r2]) (rest := []) ⟨hx, hb, hml, hown, ht⟩ (c_X11_isThrown μ H.size r1 r2 h) (cwV 2 ht (G_V q_1348 q_1350 q_26 q_56 q_1351) rfl rfl rfl ⟨rfl, hd_92⟩ ⟨Nat.le_of_ble_eq_true rfl, Nat.le_of_ble_eq_true rfl⟩) ⟨MB.blind, M_recv hK hw, MB.pre hK hI hw va_P0 ne0⟩ rfl rfl hl.1 rfl (lv_room (Nat.le_of_ble_eq_true rfl)) dX11_size_11 ⟨show 0 + 0 ≤ 41 by omega, show 0 + 0 ≤ 1685 by omega⟩) (fun r4 μ3 H locs h hw => ?_)
  refine lv_if_eq (tgt := 19) hx hb dX11_size_14 (by decide) (fun c5 => ?_) (fun c5 => ?_)
  · have h := h.1 c5
    refine lv_aload_n hx hb dX11_size_19 rfl (lv_at hl 0 rfl) ?_
    refine lv_iload_n hx hb dX11_size_20 rfl (lv_at hl 1 rfl) ?_
    refine lv_iload_n hx hb dX11_size_21 rfl (lv_at hl 2 rfl) ?_
    refine M_callA hw (MA.up hw.2.2.1.1) (va_runV (own := "LeastreaderModel") (As := [.int a1, .int a2]) (rest := []) ⟨hx, hb, hml, hown, ht⟩ (c_X11_found μ3 H.size a1 a2 h) (cwV 2 ht (G_V q_1448 q_1450 q_36 q_56 q_1451) rfl rfl rfl ⟨rfl, hd_103⟩ ⟨Nat.le_of_ble_eq_true rfl, Nat.le_of_ble_eq_true rfl⟩) ⟨MB.blind, M_recv hK hw, MB.pre hK hI hw va_P0 ne0⟩ rfl rfl hl.1 rfl (lv_room (Nat.le_of_ble_eq_true rfl)) dX11_size_22 ⟨show 0 + 41 ≤ 41 by omega, show 0 + 1685 ≤ 1685 by omega⟩) (fun μ6 H locs h hw => ?_) (fun q8 n9 f10 μ6 H locs hq8 h hw => ?_)
    · skip
      obtain ⟨e7, h⟩ := h
      rw [e7] at hw
      have h := h.1 rfl
      refine lv_astore_nN (lv' := [(3, .null), (0, .ref (ad 0)), (1, .int a1), (2, .int a2)]) hx hb dX11_size_25 rfl hl (by decide) rfl (fun ls hl => ?_)
      refine lv_aload_n hx hb dX11_size_26 rfl (lv_at hl 1 rfl) ?_
      refine lv_aload_nN hx hb dX11_size_27 rfl (lv_at hl 0 rfl) ?_
      refine lv_iconst (v := (3 : Int32)) hx hb dX11_size_28 (by decide) ?_
      refine M_calli hw (MA.up hw.2.2.1.1) (va_runV (own := "LeastreaderModel") (As := [.null, .int (3 : Int32)]) (rest := []) ⟨hx, hb, hml, hown, ht⟩ (c_X11_isCrowded_n μ3 H.size (3 : Int32) h) (cwV 2 ht (G_V q_1520 q_1522 q_42 q_56 q_1523) rfl rfl rfl ⟨rfl, hd_109⟩ ⟨Nat.le_of_ble_eq_true rfl, Nat.le_of_ble_eq_true rfl⟩) ⟨MB.blind, M_recv hK hw, MB.pre hK hI hw va_P0 ne0⟩ rfl rfl hl.1 rfl (lv_room (Nat.le_of_ble_eq_true rfl)) dX11_size_29 ⟨show 41 + 0 ≤ 41 by omega, show 1685 + 0 ≤ 1685 by omega⟩) (fun r12 μ11 H locs h hw => ?_)
      refine lv_if_eq (tgt := 39) hx hb dX11_size_32 (by decide) (fun c13 => ?_) (fun c13 => ?_)
      · have h := h.1 c13
        refine lv_aload_nN hx hb dX11_size_39 rfl (lv_at hl 0 rfl) ?_
        exact False.elim h
      have h := h.2 c13
      refine lv_iconst (v := (0 : Int32)) hx hb dX11_size_35 (by decide) ?_
      refine lv_goto (tgt := 43) hx hb dX11_size_36 (by decide) ?_
      exact hret H locs ls 43 _ _ _ _ _ hw h rfl (show 41 ≤ 41 by omega) (show 1685 ≤ 1685 by omega) dX11_size_43
    obtain ⟨e7, h⟩ := h
    rw [e7] at hw
    have h := h.2 _ _ rfl
    have hw : MW D (MR ad cI μ3) [eI cI q8 n9 f10] (MA ad s.heap.size) s H locs := hw
    refine lv_astore_n (lv' := [(3, .ref q8), (0, .ref (ad 0)), (1, .int a1), (2, .int a2)]) hx hb dX11_size_25 rfl hl (by decide) rfl (fun ls hl => ?_)
    refine lv_aload_n hx hb dX11_size_26 rfl (lv_at hl 1 rfl) ?_
    refine lv_aload_n hx hb dX11_size_27 rfl (lv_at hl 0 rfl) ?_
    refine lv_iconst (v := (3 : Int32)) hx hb dX11_size_28 (by decide) ?_
    refine M_calli hw (MA.up hw.2.2.1.1) (va_runV (own := "LeastreaderModel") (As := [.ref q8, .int (3 : Int32)]) (rest := []) ⟨hx, hb, hml, hown, ht⟩ (c_X11_isCrowded q8 μ3 H.size n9 f10 (3 : Int32) h) (cwV 2 ht (G_V q_1520 q_1522 q_42 q_56 q_1523) rfl rfl rfl ⟨rfl, hd_109⟩ ⟨Nat.le_of_ble_eq_true rfl, Nat.le_of_ble_eq_true rfl⟩) ⟨MB.blind, M_recv hK hw, MB.pre hK hI hw (va_Pc2 (hw.n (j := 0) rfl) va_P0) (neC (hw.ne (j := 0) rfl) ne0)⟩ rfl rfl hl.1 rfl (lv_room (Nat.le_of_ble_eq_true rfl)) dX11_size_29 ⟨show 41 + 0 ≤ 41 by omega, show 1685 + 0 ≤ 1685 by omega⟩) (fun r15 μ14 H locs h hw => ?_)
    refine lv_if_eq (tgt := 39) hx hb dX11_size_32 (by decide) (fun c16 => ?_) (fun c16 => ?_)
    · have h := h.1 c16
      refine lv_aload_n hx hb dX11_size_39 rfl (lv_at hl 0 rfl) ?_
      refine n_alenI hx hb hK (hw.n (j := 0) rfl) dX11_size_40 ?_
      refine lv_iconst (v := (4 : Int32)) hx hb dX11_size_41 (by decide) ?_
      refine lv_idiv hx hb dX11_size_42 (by decide) ?_
      exact hret H locs ls 43 _ _ _ _ _ hw h rfl (show 41 ≤ 41 by omega) (show 1685 ≤ 1685 by omega) dX11_size_43
    have h := h.2 c16
    refine lv_iconst (v := (0 : Int32)) hx hb dX11_size_35 (by decide) ?_
    refine lv_goto (tgt := 43) hx hb dX11_size_36 (by decide) ?_
    exact hret H locs ls 43 _ _ _ _ _ hw h rfl (show 41 ≤ 41 by omega) (show 1685 ≤ 1685 by omega) dX11_size_43
  have h := h.2 c5
  refine lv_iconst (v := (0 : Int32)) hx hb dX11_size_17 (by decide) ?_
  exact hret H locs ls 18 _ _ _ _ _ hw h rfl (show 0 ≤ 41 by omega) (show 0 ≤ 1685 by omega) dX11_size_18
def wpl_X11_isReached_29 (fa1 : Nat → Int32) (na1 : Nat) (v15 : Int32) (v17 : Int32) (v18 : Int64) (v19 : Int32) (K68 : Int64 → Prop) : Nat → Int32 → Int64 → Prop
  | 0, _, _ => False
  | n + 1, v14, v16 =>
    ((3 : Int32) ≤ v14 → (K68 v16)) ∧ (¬ (3 : Int32) ≤ v14 → ((¬ (lg_cmp ((v18 >>> (v15.toInt64 &&& 63)) &&& (1 : Int64)) (1 : Int64)) = 0 → (wpl_X11_isReached_29 fa1 na1 v15 v17 v18 v19 K68 n (v14 + (1 : Int32)) v16)) ∧ ((lg_cmp ((v18 >>> (v15.toInt64 &&& 63)) &&& (1 : Int64)) (1 : Int64)) = 0 → (vp_in (((4 : Int32) * v15) + v14) na1 ∧ (wpl_X11_isReached_29 fa1 na1 v15 v17 v18 v19 K68 n (v14 + (1 : Int32)) (v16 ||| ((1 : Int64) <<< ((fa1 (((4 : Int32) * v15) + v14).toNatClampNeg).toInt64 &&& 63))))))))
def wpl_X11_isReached_17 (fa1 : Nat → Int32) (na1 : Nat) (v9 : Int32) (v10 : Int64) (v11 : Int32) (K74 : Int64 → Prop) : Nat → Int32 → Int64 → Prop
  | 0, _, _ => False
  | n + 1, v7, v8 =>
    (((nI na1) / (4 : Int32)) ≤ v7 → (K74 v8)) ∧ (¬ ((nI na1) / (4 : Int32)) ≤ v7 → (∃ n12x, wpl_X11_isReached_29 fa1 na1 v7 v9 v10 v11 (fun (u24 : Int64) => wpl_X11_isReached_17 fa1 na1 v9 v10 v11 K74 n (v7 + (1 : Int32)) u24) n12x (0 : Int32) v8))
def wpl_X11_isReached_5 (fa1 : Nat → Int32) (na1 : Nat) (v4 : Int32) (K83 : Int64 → Prop) : Nat → Int32 → Int64 → Prop
  | 0, _, _ => False
  | n + 1, v2, v3 =>
    (v4 ≤ v2 → (K83 v3)) ∧ (¬ v4 ≤ v2 → (∃ n5x, wpl_X11_isReached_17 fa1 na1 v2 v3 v4 (fun (u26 : Int64) => wpl_X11_isReached_5 fa1 na1 v4 K83 n (v2 + (1 : Int32)) u26) n5x (0 : Int32) (0 : Int64)))
def wpl_X11_isReached_86 (fa1 : Nat → Int32) (na1 : Nat) (v31 : Int64) (Q : Int32 → Prop) : Nat → Int32 → Prop
  | 0, _ => False
  | n + 1, v30 =>
    (((nI na1) / (4 : Int32)) ≤ v30 → (Q (0 : Int32))) ∧ (¬ ((nI na1) / (4 : Int32)) ≤ v30 → ((¬ (lg_cmp ((v31 >>> (v30.toInt64 &&& 63)) &&& (1 : Int64)) (1 : Int64)) = 0 → (wpl_X11_isReached_86 fa1 na1 v31 Q n (v30 + (1 : Int32)))) ∧ ((lg_cmp ((v31 >>> (v30.toInt64 &&& 63)) &&& (1 : Int64)) (1 : Int64)) = 0 → (vp_in (((4 : Int32) * v30) + (3 : Int32)) na1 ∧ ((¬ (fa1 (((4 : Int32) * v30) + (3 : Int32)).toNatClampNeg) = (1 : Int32) → (wpl_X11_isReached_86 fa1 na1 v31 Q n (v30 + (1 : Int32)))) ∧ ((fa1 (((4 : Int32) * v30) + (3 : Int32)).toNatClampNeg) = (1 : Int32) → (Q (1 : Int32))))))))
def wp_X11_isReached (na1 : Nat) (fa1 : Nat → Int32) (a2 : Int32) (Q : Int32 → Prop) : Prop :=
  ∃ n0x, wpl_X11_isReached_5 fa1 na1 a2 (fun (u28 : Int64) => ∃ n28x, wpl_X11_isReached_86 fa1 na1 u28 Q n28x (0 : Int32)) n0x (0 : Int32) (1 : Int64)
set_option maxHeartbeats 4000000 in
set_option maxRecDepth 100000 in
theorem c_X11_isReached {l : Launch} {D : va_G} {cI cL : ClassId} (qa1 : Nat)  (sz : Nat) (na1 : Nat) (fa1 : Nat → Int32) (a2 : Int32)  {Q : Int32 → Prop} (h : wp_X11_isReached na1 fa1 a2 Q) : SMi l yX11_isReached (.code yX11_isReached cX11_isReached 9 (Option.some Jvm.ClassFile.FieldType.boolean)) 0 0 0 [.ref qa1, .int a2] D cI cL sz [eI cI qa1 na1 fa1] Q := by
  refine S_meti (by decide +kernel) (Nat.le_of_ble_eq_true rfl) ?_
  intro p e s m below meth c Z ls hx hb hml hown ht hK hP0 hw hret hl
  have hl : lv_has ls 9 [(0, .ref qa1), (1, .int a2)] := hl
  have hL0 := va_Ph hP0
  have hB0 : ¬ SA s.heap.size qa1 := fun z => absurd hL0.lt (Nat.not_lt.mpr z)
  suffices hh : ∀ (H : Heap) (locs : List Loc), MW D [] [] (SA s.heap.size) s H locs → W p l e (RA 0 0 0) s m #[.ref qa1, .int a2] below meth c H locs 0 0 Z (F0 m 0 ls []) from hh _ _ hw
  intro H locs hw
  change ∃ n0x, wpl_X11_isReached_5 fa1 na1 a2 (fun (u28 : Int64) => ∃ n28x, wpl_X11_isReached_86 fa1 na1 u28 Q n28x (0 : Int32)) n0x (0 : Int32) (1 : Int64) at h
  refine lv_lconst (v := (1 : Int64)) hx hb dX11_isReached_0 (by decide) ?_
  refine lv_lstore_n (lv' := [(2, .long (1 : Int64)), (0, .ref qa1), (1, .int a2)]) hx hb dX11_isReached_1 rfl hl (by decide) rfl (fun ls hl => ?_)
  refine lv_iconst (v := (0 : Int32)) hx hb dX11_isReached_2 (by decide) ?_
  refine lv_istore (lv' := [(4, .int (0 : Int32)), (2, .long (1 : Int64)), (0, .ref qa1), (1, .int a2)]) hx hb dX11_isReached_3 hl (by decide) rfl (fun ls hl => ?_)
  obtain ⟨n27, h⟩ := h
  have L0 : ∀ (v4 : Int32) (K83 : Int64 → Prop), (∀ (v3 : Int64), ∀ (H : Heap) (locs : List Loc) (ls : Array Slot), MW D [] [] (SA s.heap.size) s H locs → lv_has ls 9 [(2, .long v3), (0, .ref qa1)] → K83 v3 → W p l e (RA 0 0 0) s m #[.ref qa1, .int a2] below meth c H locs 0 0 Z (F0 m 83 ls [])) → ∀ (n : Nat), ∀ (v2 : Int32) (v3 : Int64), ∀ (H : Heap) (locs : List Loc) (ls : Array Slot), MW D [] [] (SA s.heap.size) s H locs → lv_has ls 9 [(4, .int v2), (2, .long v3), (0, .ref qa1), (1, .int v4)] → wpl_X11_isReached_5 fa1 na1 v4 K83 n v2 v3 → W p l e (RA 0 0 0) s m #[.ref qa1, .int a2] below meth c H locs 0 0 Z (F0 m 5 ls []) := by
    intro v4 K83 hK83
    intro n
    induction n with
    | zero => intro v2 v3 H locs ls hw hl h; exact False.elim h
    | succ n ih0 =>
      intro v2 v3 H locs ls hw hl h
      change (v4 ≤ v2 → (K83 v3)) ∧ (¬ v4 ≤ v2 → (∃ n5x, wpl_X11_isReached_17 fa1 na1 v2 v3 v4 (fun (u26 : Int64) => wpl_X11_isReached_5 fa1 na1 v4 K83 n (v2 + (1 : Int32)) u26) n5x (0 : Int32) (0 : Int64))) at h
      refine lv_iload hx hb dX11_isReached_5 (lv_at hl 0 rfl) ?_
      refine lv_iload_n hx hb dX11_isReached_7 rfl (lv_at hl 3 rfl) ?_
      refine lv_icmp_ge (tgt := 83) hx hb dX11_isReached_8 (by decide) (fun c5 => ?_) (fun c5 => ?_)
      · have h := h.1 c5
        exact hK83 v3 H locs ls hw (lv_sub hl [1, 2] rfl) h
      have h := h.2 c5
      refine lv_lconst (v := (0 : Int64)) hx hb dX11_isReached_11 (by decide) ?_
      refine lv_lstore (lv' := [(5, .long (0 : Int64)), (4, .int v2), (2, .long v3), (0, .ref qa1), (1, .int v4)]) hx hb dX11_isReached_12 hl (by decide) rfl (fun ls hl => ?_)
      refine lv_iconst (v := (0 : Int32)) hx hb dX11_isReached_14 (by decide) ?_
      refine lv_istore (lv' := [(7, .int (0 : Int32)), (5, .long (0 : Int64)), (4, .int v2), (2, .long v3), (0, .ref qa1), (1, .int v4)]) hx hb dX11_isReached_15 hl (by decide) rfl (fun ls hl => ?_)
      obtain ⟨n25, h⟩ := h
      have L5 : ∀ (v9 : Int32) (v10 : Int64) (v11 : Int32) (K74 : Int64 → Prop), (∀ (v8 : Int64), ∀ (H : Heap) (locs : List Loc) (ls : Array Slot), MW D [] [] (SA s.heap.size) s H locs → lv_has ls 9 [(5, .long v8), (4, .int v9), (0, .ref qa1), (1, .int v11)] → K74 v8 → W p l e (RA 0 0 0) s m #[.ref qa1, .int a2] below meth c H locs 0 0 Z (F0 m 74 ls [])) → ∀ (n : Nat), ∀ (v7 : Int32) (v8 : Int64), ∀ (H : Heap) (locs : List Loc) (ls : Array Slot), MW D [] [] (SA s.heap.size) s H locs → lv_has ls 9 [(7, .int v7), (5, .long v8), (4, .int v9), (2, .long v10), (0, .ref qa1), (1, .int v11)] → wpl_X11_isReached_17 fa1 na1 v9 v10 v11 K74 n v7 v8 → W p l e (RA 0 0 0) s m #[.ref qa1, .int a2] below meth c H locs 0 0 Z (F0 m 17 ls []) := by
        intro v9 v10 v11 K74 hK74
        intro n
        induction n with
        | zero => intro v7 v8 H locs ls hw hl h; exact False.elim h
        | succ n ih5 =>
          intro v7 v8 H locs ls hw hl h
          change (((nI na1) / (4 : Int32)) ≤ v7 → (K74 v8)) ∧ (¬ ((nI na1) / (4 : Int32)) ≤ v7 → (∃ n12x, wpl_X11_isReached_29 fa1 na1 v7 v9 v10 v11 (fun (u24 : Int64) => wpl_X11_isReached_17 fa1 na1 v9 v10 v11 K74 n (v7 + (1 : Int32)) u24) n12x (0 : Int32) v8)) at h
          refine lv_iload hx hb dX11_isReached_17 (lv_at hl 0 rfl) ?_
          refine lv_aload_n hx hb dX11_isReached_19 rfl (lv_at hl 4 rfl) ?_
          refine n_alenI hx hb hK (hw.arg hL0 hB0) dX11_isReached_20 ?_
          refine lv_iconst (v := (4 : Int32)) hx hb dX11_isReached_21 (by decide) ?_
          refine lv_idiv hx hb dX11_isReached_22 (by decide) ?_
          refine lv_icmp_ge (tgt := 74) hx hb dX11_isReached_23 (by decide) (fun c12 => ?_) (fun c12 => ?_)
          · have h := h.1 c12
            exact hK74 v8 H locs ls hw (lv_sub hl [1, 2, 4, 5] rfl) h
          have h := h.2 c12
          refine lv_iconst (v := (0 : Int32)) hx hb dX11_isReached_26 (by decide) ?_
          refine lv_istore (lv' := [(8, .int (0 : Int32)), (7, .int v7), (5, .long v8), (4, .int v9), (2, .long v10), (0, .ref qa1), (1, .int v11)]) hx hb dX11_isReached_27 hl (by decide) rfl (fun ls hl => ?_)
          obtain ⟨n23, h⟩ := h
          have L12 : ∀ (v15 : Int32) (v17 : Int32) (v18 : Int64) (v19 : Int32) (K68 : Int64 → Prop), (∀ (v16 : Int64), ∀ (H : Heap) (locs : List Loc) (ls : Array Slot), MW D [] [] (SA s.heap.size) s H locs → lv_has ls 9 [(7, .int v15), (5, .long v16), (4, .int v17), (2, .long v18), (0, .ref qa1), (1, .int v19)] → K68 v16 → W p l e (RA 0 0 0) s m #[.ref qa1, .int a2] below meth c H locs 0 0 Z (F0 m 68 ls [])) → ∀ (n : Nat), ∀ (v14 : Int32) (v16 : Int64), ∀ (H : Heap) (locs : List Loc) (ls : Array Slot), MW D [] [] (SA s.heap.size) s H locs → lv_has ls 9 [(8, .int v14), (7, .int v15), (5, .long v16), (4, .int v17), (2, .long v18), (0, .ref qa1), (1, .int v19)] → wpl_X11_isReached_29 fa1 na1 v15 v17 v18 v19 K68 n v14 v16 → W p l e (RA 0 0 0) s m #[.ref qa1, .int a2] below meth c H locs 0 0 Z (F0 m 29 ls []) := by
            intro v15 v17 v18 v19 K68 hK68
            intro n
            induction n with
            | zero => intro v14 v16 H locs ls hw hl h; exact False.elim h
            | succ n ih12 =>
              intro v14 v16 H locs ls hw hl h
              change ((3 : Int32) ≤ v14 → (K68 v16)) ∧ (¬ (3 : Int32) ≤ v14 → ((¬ (lg_cmp ((v18 >>> (v15.toInt64 &&& 63)) &&& (1 : Int64)) (1 : Int64)) = 0 → (wpl_X11_isReached_29 fa1 na1 v15 v17 v18 v19 K68 n (v14 + (1 : Int32)) v16)) ∧ ((lg_cmp ((v18 >>> (v15.toInt64 &&& 63)) &&& (1 : Int64)) (1 : Int64)) = 0 → (vp_in (((4 : Int32) * v15) + v14) na1 ∧ (wpl_X11_isReached_29 fa1 na1 v15 v17 v18 v19 K68 n (v14 + (1 : Int32)) (v16 ||| ((1 : Int64) <<< ((fa1 (((4 : Int32) * v15) + v14).toNatClampNeg).toInt64 &&& 63)))))))) at h
              refine lv_iload hx hb dX11_isReached_29 (lv_at hl 0 rfl) ?_
              refine lv_iconst (v := (3 : Int32)) hx hb dX11_isReached_31 (by decide) ?_
              refine lv_icmp_ge (tgt := 68) hx hb dX11_isReached_32 (by decide) (fun c20 => ?_) (fun c20 => ?_)
              · have h := h.1 c20
                exact hK68 v16 H locs ls hw (lv_sub hl [1, 2, 3, 4, 5, 6] rfl) h
              have h := h.2 c20
              refine lv_lload_n hx hb dX11_isReached_35 rfl (lv_at hl 4 rfl) ?_
              refine lv_iload hx hb dX11_isReached_36 (lv_at hl 1 rfl) ?_
              refine lv_lshr hx hb dX11_isReached_38 rfl ?_
              refine lv_lconst (v := (1 : Int64)) hx hb dX11_isReached_39 (by decide) ?_
              refine lv_land hx hb dX11_isReached_40 ?_
              refine lv_lconst (v := (1 : Int64)) hx hb dX11_isReached_41 (by decide) ?_
              refine W.lcmp hx hb dX11_isReached_42 ?_
              refine lv_if_ne (tgt := 62) hx hb dX11_isReached_43 (by decide) (fun c21 => ?_) (fun c21 => ?_)
              · have h := h.1 c21
                refine lv_iinc (v := (v14 + (1 : Int32))) (lv' := [(8, .int (v14 + (1 : Int32))), (7, .int v15), (5, .long v16), (4, .int v17), (2, .long v18), (0, .ref qa1), (1, .int v19)]) hx hb dX11_isReached_62 hl (k := 0) rfl rfl (by decide) rfl (fun ls hl => ?_)
                refine lv_goto (tgt := 29) hx hb dX11_isReached_65 (by decide) ?_
                exact ih12 (v14 + (1 : Int32)) v16 H locs ls hw (lv_sub hl [0, 1, 2, 3, 4, 5, 6] rfl) h
              have h := h.2 c21
              refine lv_lload hx hb dX11_isReached_46 (lv_at hl 2 rfl) ?_
              refine lv_lconst (v := (1 : Int64)) hx hb dX11_isReached_48 (by decide) ?_
              refine lv_aload_n hx hb dX11_isReached_49 rfl (lv_at hl 5 rfl) ?_
              refine lv_iconst (v := (4 : Int32)) hx hb dX11_isReached_50 (by decide) ?_
              refine lv_iload hx hb dX11_isReached_51 (lv_at hl 1 rfl) ?_
              refine lv_imul hx hb dX11_isReached_53 ?_
              refine lv_iload hx hb dX11_isReached_54 (lv_at hl 0 rfl) ?_
              refine lv_iadd hx hb dX11_isReached_56 ?_
              obtain ⟨z22, h⟩ := h
              refine n_iald hx hb hK (hw.arg hL0 hB0) z22 dX11_isReached_57 ?_
              refine lv_lshl hx hb dX11_isReached_58 rfl ?_
              refine lv_lor hx hb dX11_isReached_59 ?_
              refine lv_lstore (lv' := [(5, .long (v16 ||| ((1 : Int64) <<< ((fa1 (((4 : Int32) * v15) + v14).toNatClampNeg).toInt64 &&& 63)))), (8, .int v14), (7, .int v15), (4, .int v17), (2, .long v18), (0, .ref qa1), (1, .int v19)]) hx hb dX11_isReached_60 hl (by decide) rfl (fun ls hl => ?_)
              refine lv_iinc (v := (v14 + (1 : Int32))) (lv' := [(8, .int (v14 + (1 : Int32))), (5, .long (v16 ||| ((1 : Int64) <<< ((fa1 (((4 : Int32) * v15) + v14).toNatClampNeg).toInt64 &&& 63)))), (7, .int v15), (4, .int v17), (2, .long v18), (0, .ref qa1), (1, .int v19)]) hx hb dX11_isReached_62 hl (k := 1) rfl rfl (by decide) rfl (fun ls hl => ?_)
              refine lv_goto (tgt := 29) hx hb dX11_isReached_65 (by decide) ?_
              exact ih12 (v14 + (1 : Int32)) (v16 ||| ((1 : Int64) <<< ((fa1 (((4 : Int32) * v15) + v14).toNatClampNeg).toInt64 &&& 63))) H locs ls hw (lv_sub hl [0, 2, 1, 3, 4, 5, 6] rfl) h
          refine L12 v7 v9 v10 v11 _ ?_ n23 (0 : Int32) v8 H locs ls hw (lv_sub hl [0, 1, 2, 3, 4, 5, 6] rfl) h
          intro u24 H locs ls hw hl h
          refine lv_iinc (v := (v7 + (1 : Int32))) (lv' := [(7, .int (v7 + (1 : Int32))), (5, .long u24), (4, .int v9), (2, .long v10), (0, .ref qa1), (1, .int v11)]) hx hb dX11_isReached_68 hl (k := 0) rfl rfl (by decide) rfl (fun ls hl => ?_)
          refine lv_goto (tgt := 17) hx hb dX11_isReached_71 (by decide) ?_
          exact ih5 (v7 + (1 : Int32)) u24 H locs ls hw (lv_sub hl [0, 1, 2, 3, 4, 5] rfl) h
      refine L5 v2 v3 v4 _ ?_ n25 (0 : Int32) (0 : Int64) H locs ls hw (lv_sub hl [0, 1, 2, 3, 4, 5] rfl) h
      intro u26 H locs ls hw hl h
      refine lv_lload hx hb dX11_isReached_74 (lv_at hl 0 rfl) ?_
      refine lv_lstore_n (lv' := [(2, .long u26), (5, .long u26), (4, .int v2), (0, .ref qa1), (1, .int v4)]) hx hb dX11_isReached_76 rfl hl (by decide) rfl (fun ls hl => ?_)
      refine lv_iinc (v := (v2 + (1 : Int32))) (lv' := [(4, .int (v2 + (1 : Int32))), (2, .long u26), (5, .long u26), (0, .ref qa1), (1, .int v4)]) hx hb dX11_isReached_77 hl (k := 2) rfl rfl (by decide) rfl (fun ls hl => ?_)
      refine lv_goto (tgt := 5) hx hb dX11_isReached_80 (by decide) ?_
      exact ih0 (v2 + (1 : Int32)) u26 H locs ls hw (lv_sub hl [0, 1, 3, 4] rfl) h
  refine L0 a2 _ ?_ n27 (0 : Int32) (1 : Int64) H locs ls hw (lv_sub hl [0, 1, 2, 3] rfl) h
  intro u28 H locs ls hw hl h
  refine lv_iconst (v := (0 : Int32)) hx hb dX11_isReached_83 (by decide) ?_
  refine lv_istore (lv' := [(4, .int (0 : Int32)), (2, .long u28), (0, .ref qa1)]) hx hb dX11_isReached_84 hl (by decide) rfl (fun ls hl => ?_)
  obtain ⟨n36, h⟩ := h
  have L28 : ∀ (v31 : Int64), ∀ (n : Nat), ∀ (v30 : Int32), ∀ (H : Heap) (locs : List Loc) (ls : Array Slot), MW D [] [] (SA s.heap.size) s H locs → lv_has ls 9 [(4, .int v30), (2, .long v31), (0, .ref qa1)] → wpl_X11_isReached_86 fa1 na1 v31 Q n v30 → W p l e (RA 0 0 0) s m #[.ref qa1, .int a2] below meth c H locs 0 0 Z (F0 m 86 ls []) := by
    intro v31
    intro n
    induction n with
    | zero => intro v30 H locs ls hw hl h; exact False.elim h
    | succ n ih28 =>
      intro v30 H locs ls hw hl h
      change (((nI na1) / (4 : Int32)) ≤ v30 → (Q (0 : Int32))) ∧ (¬ ((nI na1) / (4 : Int32)) ≤ v30 → ((¬ (lg_cmp ((v31 >>> (v30.toInt64 &&& 63)) &&& (1 : Int64)) (1 : Int64)) = 0 → (wpl_X11_isReached_86 fa1 na1 v31 Q n (v30 + (1 : Int32)))) ∧ ((lg_cmp ((v31 >>> (v30.toInt64 &&& 63)) &&& (1 : Int64)) (1 : Int64)) = 0 → (vp_in (((4 : Int32) * v30) + (3 : Int32)) na1 ∧ ((¬ (fa1 (((4 : Int32) * v30) + (3 : Int32)).toNatClampNeg) = (1 : Int32) → (wpl_X11_isReached_86 fa1 na1 v31 Q n (v30 + (1 : Int32)))) ∧ ((fa1 (((4 : Int32) * v30) + (3 : Int32)).toNatClampNeg) = (1 : Int32) → (Q (1 : Int32)))))))) at h
      refine lv_iload hx hb dX11_isReached_86 (lv_at hl 0 rfl) ?_
      refine lv_aload_n hx hb dX11_isReached_88 rfl (lv_at hl 2 rfl) ?_
      refine n_alenI hx hb hK (hw.arg hL0 hB0) dX11_isReached_89 ?_
      refine lv_iconst (v := (4 : Int32)) hx hb dX11_isReached_90 (by decide) ?_
      refine lv_idiv hx hb dX11_isReached_91 (by decide) ?_
      refine lv_icmp_ge (tgt := 126) hx hb dX11_isReached_92 (by decide) (fun c32 => ?_) (fun c32 => ?_)
      · have h := h.1 c32
        refine lv_iconst (v := (0 : Int32)) hx hb dX11_isReached_126 (by decide) ?_
        exact hret H locs ls 127 _ _ _ _ hw h rfl (show 0 ≤ 0 by omega) (show 0 ≤ 0 by omega) dX11_isReached_127
      have h := h.2 c32
      refine lv_lload_n hx hb dX11_isReached_95 rfl (lv_at hl 1 rfl) ?_
      refine lv_iload hx hb dX11_isReached_96 (lv_at hl 0 rfl) ?_
      refine lv_lshr hx hb dX11_isReached_98 rfl ?_
      refine lv_lconst (v := (1 : Int64)) hx hb dX11_isReached_99 (by decide) ?_
      refine lv_land hx hb dX11_isReached_100 ?_
      refine lv_lconst (v := (1 : Int64)) hx hb dX11_isReached_101 (by decide) ?_
      refine W.lcmp hx hb dX11_isReached_102 ?_
      refine lv_if_ne (tgt := 120) hx hb dX11_isReached_103 (by decide) (fun c33 => ?_) (fun c33 => ?_)
      · have h := h.1 c33
        refine lv_iinc (v := (v30 + (1 : Int32))) (lv' := [(4, .int (v30 + (1 : Int32))), (2, .long v31), (0, .ref qa1)]) hx hb dX11_isReached_120 hl (k := 0) rfl rfl (by decide) rfl (fun ls hl => ?_)
        refine lv_goto (tgt := 86) hx hb dX11_isReached_123 (by decide) ?_
        exact ih28 (v30 + (1 : Int32)) H locs ls hw (lv_sub hl [0, 1, 2] rfl) h
      have h := h.2 c33
      refine lv_aload_n hx hb dX11_isReached_106 rfl (lv_at hl 2 rfl) ?_
      refine lv_iconst (v := (4 : Int32)) hx hb dX11_isReached_107 (by decide) ?_
      refine lv_iload hx hb dX11_isReached_108 (lv_at hl 0 rfl) ?_
      refine lv_imul hx hb dX11_isReached_110 ?_
      refine lv_iconst (v := (3 : Int32)) hx hb dX11_isReached_111 (by decide) ?_
      refine lv_iadd hx hb dX11_isReached_112 ?_
      obtain ⟨z34, h⟩ := h
      refine n_iald hx hb hK (hw.arg hL0 hB0) z34 dX11_isReached_113 ?_
      refine lv_iconst (v := (1 : Int32)) hx hb dX11_isReached_114 (by decide) ?_
      refine lv_icmp_ne (tgt := 120) hx hb dX11_isReached_115 (by decide) (fun c35 => ?_) (fun c35 => ?_)
      · have h := h.1 c35
        refine lv_iinc (v := (v30 + (1 : Int32))) (lv' := [(4, .int (v30 + (1 : Int32))), (2, .long v31), (0, .ref qa1)]) hx hb dX11_isReached_120 hl (k := 0) rfl rfl (by decide) rfl (fun ls hl => ?_)
        refine lv_goto (tgt := 86) hx hb dX11_isReached_123 (by decide) ?_
        exact ih28 (v30 + (1 : Int32)) H locs ls hw (lv_sub hl [0, 1, 2] rfl) h
      have h := h.2 c35
      refine lv_iconst (v := (1 : Int32)) hx hb dX11_isReached_118 (by decide) ?_
      exact hret H locs ls 119 _ _ _ _ hw h rfl (show 0 ≤ 0 by omega) (show 0 ≤ 0 by omega) dX11_isReached_119
  exact L28 u28 n36 (0 : Int32) H locs ls hw (lv_sub hl [0, 1, 2] rfl) h
def wpl_X11_kind_49 (μ13 : TMem) (f9 : Nat → Int32) (n8 : Nat) (v19 : Int32) (Q : Int32 → TMem → Prop) : Nat → Int32 → Prop
  | 0, _ => False
  | n + 1, v18 =>
    (((2 : Int32) * v19) ≤ v18 → (Q (2 : Int32) μ13)) ∧ (¬ ((2 : Int32) * v19) ≤ v18 → (wp_X11_isReached n8 f9 v18 (fun (r21 : Int32) => (r21 = 0 → (wpl_X11_kind_49 μ13 f9 n8 v19 Q n (v18 + (1 : Int32)))) ∧ (¬ r21 = 0 → (Q (3 : Int32) μ13)))))
def wp_X11_kind (μ : TMem) (a1 : Int32) (Q : Int32 → TMem → Prop) : Prop :=
  wp_X11_isOne a1 (fun (r1 : Int32) => wp_X11_isThrown μ r1 (1 : Int32) (fun (r3 : Int32) (μ2 : TMem) => (r3 = 0 → (wp_X11_found μ2 a1 (0 : Int32) (fun (r25 : Option AI) => (r25 = none → (wp_X11_isCrowded_n μ2 (2 : Int32) (fun (r11 : Int32) (μ10 : TMem) => (r11 = 0 → (False)) ∧ (¬ r11 = 0 → (Q (0 : Int32) μ10))))) ∧ (∀ (n8 : Nat) (f9 : Nat → Int32), r25 = some (n8, f9) → (wp_X11_isCrowded μ2 n8 f9 (2 : Int32) (fun (r14 : Int32) (μ13 : TMem) => (r14 = 0 → ((¬ ((nI n8) / (4 : Int32)) = (1 : Int32) → (∃ n16x, wpl_X11_kind_49 μ13 f9 n8 ((nI n8) / (4 : Int32)) Q n16x ((nI n8) / (4 : Int32)))) ∧ (((nI n8) / (4 : Int32)) = (1 : Int32) → (vp_in (3 : Int32) n8 ∧ (Q (f9 (3 : Int32).toNatClampNeg) μ13))))) ∧ (¬ r14 = 0 → (Q (0 : Int32) μ13)))))))) ∧ (¬ r3 = 0 → (Q (0 : Int32) μ2))))
set_option maxHeartbeats 4000000 in
set_option maxRecDepth 100000 in
theorem c_X11_kind {l : Launch} {D : va_G} {ad : Nat → Nat} {cI cL : ClassId}  (μ : TMem) (sz : Nat) (a1 : Int32)  {Q : Int32 → TMem → Prop} (h : wp_X11_kind μ a1 Q) : MMi l yX11_kind (.code yX11_kind cX11_kind 5 (Option.some Jvm.ClassFile.FieldType.int)) 4 41 1685 [.ref (ad 0), .int a1] D ad cI cL sz μ [] Q := by
  refine M_meti (by decide +kernel) (Nat.le_of_ble_eq_true rfl) ?_
  intro p e s m below meth c Z ls hx hb hml hown ht hK hP0 hI hne hw hret hl
  have hl : lv_has ls 5 [(0, .ref (ad 0)), (1, .int a1)] := hl
  suffices hh : ∀ (H : Heap) (locs : List Loc), MW D (MR ad cI μ) [] (MA ad s.heap.size) s H locs → W p l e (RA 4 41 1685) s m #[.ref (ad 0), .int a1] below meth c H locs 0 0 Z (F0 m 0 ls []) from hh _ _ hw
  intro H locs hw
  change wp_X11_isOne a1 (fun (r1 : Int32) => wp_X11_isThrown μ r1 (1 : Int32) (fun (r3 : Int32) (μ2 : TMem) => (r3 = 0 → (wp_X11_found μ2 a1 (0 : Int32) (fun (r25 : Option AI) => (r25 = none → (wp_X11_isCrowded_n μ2 (2 : Int32) (fun (r11 : Int32) (μ10 : TMem) => (r11 = 0 → (False)) ∧ (¬ r11 = 0 → (Q (0 : Int32) μ10))))) ∧ (∀ (n8 : Nat) (f9 : Nat → Int32), r25 = some (n8, f9) → (wp_X11_isCrowded μ2 n8 f9 (2 : Int32) (fun (r14 : Int32) (μ13 : TMem) => (r14 = 0 → ((¬ ((nI n8) / (4 : Int32)) = (1 : Int32) → (∃ n16x, wpl_X11_kind_49 μ13 f9 n8 ((nI n8) / (4 : Int32)) Q n16x ((nI n8) / (4 : Int32)))) ∧ (((nI n8) / (4 : Int32)) = (1 : Int32) → (vp_in (3 : Int32) n8 ∧ (Q (f9 (3 : Int32).toNatClampNeg) μ13))))) ∧ (¬ r14 = 0 → (Q (0 : Int32) μ13)))))))) ∧ (¬ r3 = 0 → (Q (0 : Int32) μ2)))) at h
  refine lv_aload_n hx hb dX11_kind_0 rfl (lv_at hl 0 rfl) ?_
  refine lv_iload_n hx hb dX11_kind_1 rfl (lv_at hl 1 rfl) ?_
  refine P_calli (va_runS (own := "LeastreaderModel") (As := [.int a1]) (rest := [.ref (ad 0)]) ⟨hx, hb, hml, hown, ht⟩ (c_X11_isOne a1 h) (va_cwS 1 ht (G_S q_1342 q_1343 q_56 q_1344) rfl rfl rfl hd_91 ⟨Nat.le_of_ble_eq_true rfl, Nat.le_of_ble_eq_true rfl⟩) ⟨PM_blind, PM_pre⟩ rfl rfl hl.1 rfl (lv_room (Nat.le_of_ble_eq_true rfl)) dX11_kind_2 ⟨show 0 + 0 ≤ 41 by omega, show 0 + 0 ≤ 1685 by omega⟩) (fun r1 h => ?_)
  refine lv_iconst (v := (1 : Int32)) hx hb dX11_kind_5 (by decide) ?_
  refine M_calli hw (MA.up hw.2.2.1.1) (va_runV (own := "LeastreaderModel") (As := [.int r1, .int (1 : Int32)]) (rest := []) ⟨hx, hb, hml, hown, ht⟩ (c_X11_isThrown μ H.size r1 (1 : Int32) h) (cwV 2 ht (G_V q_1348 q_1350 q_26 q_56 q_1351) rfl rfl rfl ⟨rfl, hd_92⟩ ⟨Nat.le_of_ble_eq_true rfl, Nat.le_of_ble_eq_true rfl⟩) ⟨MB.blind, M_recv hK hw, MB.pre hK hI hw va_P0 ne0⟩ rfl rfl hl.1 rfl (lv_room (Nat.le_of_ble_eq_true rfl)) dX11_kind_6 ⟨show 0 + 0 ≤ 41 by omega, show 0 + 0 ≤ 1685 by omega⟩) (fun r3 μ2 H locs h hw => ?_)
  refine lv_if_eq (tgt := 14) hx hb dX11_kind_9 (by decide) (fun c4 => ?_) (fun c4 => ?_)
  · have h := h.1 c4
    refine lv_aload_n hx hb dX11_kind_14 rfl (lv_at hl 0 rfl) ?_
    refine lv_iload_n hx hb dX11_kind_15 rfl (lv_at hl 1 rfl) ?_
    refine lv_iconst (v := (0 : Int32)) hx hb dX11_kind_16 (by decide) ?_
    refine M_callA hw (MA.up hw.2.2.1.1) (va_runV (own := "LeastreaderModel") (As := [.int a1, .int (0 : Int32)]) (rest := []) ⟨hx, hb, hml, hown, ht⟩ (c_X11_found μ2 H.size a1 (0 : Int32) h) (cwV 2 ht (G_V q_1448 q_1450 q_36 q_56 q_1451) rfl rfl rfl ⟨rfl, hd_103⟩ ⟨Nat.le_of_ble_eq_true rfl, Nat.le_of_ble_eq_true rfl⟩) ⟨MB.blind, M_recv hK hw, MB.pre hK hI hw va_P0 ne0⟩ rfl rfl hl.1 rfl (lv_room (Nat.le_of_ble_eq_true rfl)) dX11_kind_17 ⟨show 0 + 41 ≤ 41 by omega, show 0 + 1685 ≤ 1685 by omega⟩) (fun μ5 H locs h hw => ?_) (fun q7 n8 f9 μ5 H locs hq7 h hw => ?_)
    · skip
      obtain ⟨e6, h⟩ := h
      rw [e6] at hw
      have h := h.1 rfl
      refine lv_astore_nN (lv' := [(2, .null), (0, .ref (ad 0)), (1, .int a1)]) hx hb dX11_kind_20 rfl hl (by decide) rfl (fun ls hl => ?_)
      refine lv_aload_n hx hb dX11_kind_21 rfl (lv_at hl 1 rfl) ?_
      refine lv_aload_nN hx hb dX11_kind_22 rfl (lv_at hl 0 rfl) ?_
      refine lv_iconst (v := (2 : Int32)) hx hb dX11_kind_23 (by decide) ?_
      refine M_calli hw (MA.up hw.2.2.1.1) (va_runV (own := "LeastreaderModel") (As := [.null, .int (2 : Int32)]) (rest := []) ⟨hx, hb, hml, hown, ht⟩ (c_X11_isCrowded_n μ2 H.size (2 : Int32) h) (cwV 2 ht (G_V q_1520 q_1522 q_42 q_56 q_1523) rfl rfl rfl ⟨rfl, hd_109⟩ ⟨Nat.le_of_ble_eq_true rfl, Nat.le_of_ble_eq_true rfl⟩) ⟨MB.blind, M_recv hK hw, MB.pre hK hI hw va_P0 ne0⟩ rfl rfl hl.1 rfl (lv_room (Nat.le_of_ble_eq_true rfl)) dX11_kind_24 ⟨show 41 + 0 ≤ 41 by omega, show 1685 + 0 ≤ 1685 by omega⟩) (fun r11 μ10 H locs h hw => ?_)
      refine lv_if_eq (tgt := 32) hx hb dX11_kind_27 (by decide) (fun c12 => ?_) (fun c12 => ?_)
      · have h := h.1 c12
        refine lv_aload_nN hx hb dX11_kind_32 rfl (lv_at hl 0 rfl) ?_
        exact False.elim h
      have h := h.2 c12
      refine lv_iconst (v := (0 : Int32)) hx hb dX11_kind_30 (by decide) ?_
      exact hret H locs ls 31 _ _ _ _ _ hw h rfl (show 41 ≤ 41 by omega) (show 1685 ≤ 1685 by omega) dX11_kind_31
    obtain ⟨e6, h⟩ := h
    rw [e6] at hw
    have h := h.2 _ _ rfl
    have hw : MW D (MR ad cI μ2) [eI cI q7 n8 f9] (MA ad s.heap.size) s H locs := hw
    refine lv_astore_n (lv' := [(2, .ref q7), (0, .ref (ad 0)), (1, .int a1)]) hx hb dX11_kind_20 rfl hl (by decide) rfl (fun ls hl => ?_)
    refine lv_aload_n hx hb dX11_kind_21 rfl (lv_at hl 1 rfl) ?_
    refine lv_aload_n hx hb dX11_kind_22 rfl (lv_at hl 0 rfl) ?_
    refine lv_iconst (v := (2 : Int32)) hx hb dX11_kind_23 (by decide) ?_
    refine M_calli hw (MA.up hw.2.2.1.1) (va_runV (own := "LeastreaderModel") (As := [.ref q7, .int (2 : Int32)]) (rest := []) ⟨hx, hb, hml, hown, ht⟩ (c_X11_isCrowded q7 μ2 H.size n8 f9 (2 : Int32) h) (cwV 2 ht (G_V q_1520 q_1522 q_42 q_56 q_1523) rfl rfl rfl ⟨rfl, hd_109⟩ ⟨Nat.le_of_ble_eq_true rfl, Nat.le_of_ble_eq_true rfl⟩) ⟨MB.blind, M_recv hK hw, MB.pre hK hI hw (va_Pc2 (hw.n (j := 0) rfl) va_P0) (neC (hw.ne (j := 0) rfl) ne0)⟩ rfl rfl hl.1 rfl (lv_room (Nat.le_of_ble_eq_true rfl)) dX11_kind_24 ⟨show 41 + 0 ≤ 41 by omega, show 1685 + 0 ≤ 1685 by omega⟩) (fun r14 μ13 H locs h hw => ?_)
    refine lv_if_eq (tgt := 32) hx hb dX11_kind_27 (by decide) (fun c15 => ?_) (fun c15 => ?_)
    · have h := h.1 c15
      refine lv_aload_n hx hb dX11_kind_32 rfl (lv_at hl 0 rfl) ?_
      refine n_alenI hx hb hK (hw.n (j := 0) rfl) dX11_kind_33 ?_
      refine lv_iconst (v := (4 : Int32)) hx hb dX11_kind_34 (by decide) ?_
      refine lv_idiv hx hb dX11_kind_35 (by decide) ?_
      refine lv_istore_n (lv' := [(3, .int ((nI n8) / (4 : Int32))), (2, .ref q7), (0, .ref (ad 0)), (1, .int a1)]) hx hb dX11_kind_36 rfl hl (by decide) rfl (fun ls hl => ?_)
      refine lv_iload_n hx hb dX11_kind_37 rfl (lv_at hl 0 rfl) ?_
      refine lv_iconst (v := (1 : Int32)) hx hb dX11_kind_38 (by decide) ?_
      refine lv_icmp_ne (tgt := 46) hx hb dX11_kind_39 (by decide) (fun c16 => ?_) (fun c16 => ?_)
      · have h := h.1 c16
        refine lv_iload_n hx hb dX11_kind_46 rfl (lv_at hl 0 rfl) ?_
        refine lv_istore (lv' := [(4, .int ((nI n8) / (4 : Int32))), (3, .int ((nI n8) / (4 : Int32))), (2, .ref q7), (0, .ref (ad 0)), (1, .int a1)]) hx hb dX11_kind_47 hl (by decide) rfl (fun ls hl => ?_)
        obtain ⟨n23, h⟩ := h
        have L16 : ∀ (v19 : Int32), ∀ (n : Nat), ∀ (v18 : Int32), ∀ (H : Heap) (locs : List Loc) (ls : Array Slot), MW D (MR ad cI μ13) [eI cI q7 n8 f9] (MA ad s.heap.size) s H locs → lv_has ls 5 [(4, .int v18), (3, .int v19), (2, .ref q7)] → wpl_X11_kind_49 μ13 f9 n8 v19 Q n v18 → W p l e (RA 4 41 1685) s m #[.ref (ad 0), .int a1] below meth c H locs 41 1685 Z (F0 m 49 ls []) := by
          intro v19
          intro n
          induction n with
          | zero => intro v18 H locs ls hw hl h; exact False.elim h
          | succ n ih16 =>
            intro v18 H locs ls hw hl h
            change (((2 : Int32) * v19) ≤ v18 → (Q (2 : Int32) μ13)) ∧ (¬ ((2 : Int32) * v19) ≤ v18 → (wp_X11_isReached n8 f9 v18 (fun (r21 : Int32) => (r21 = 0 → (wpl_X11_kind_49 μ13 f9 n8 v19 Q n (v18 + (1 : Int32)))) ∧ (¬ r21 = 0 → (Q (3 : Int32) μ13))))) at h
            refine lv_iload hx hb dX11_kind_49 (lv_at hl 0 rfl) ?_
            refine lv_iconst (v := (2 : Int32)) hx hb dX11_kind_51 (by decide) ?_
            refine lv_iload_n hx hb dX11_kind_52 rfl (lv_at hl 1 rfl) ?_
            refine lv_imul hx hb dX11_kind_53 ?_
            refine lv_icmp_ge (tgt := 74) hx hb dX11_kind_54 (by decide) (fun c20 => ?_) (fun c20 => ?_)
            · have h := h.1 c20
              refine lv_iconst (v := (2 : Int32)) hx hb dX11_kind_74 (by decide) ?_
              exact hret H locs ls 75 _ _ _ _ _ hw h rfl (show 41 ≤ 41 by omega) (show 1685 ≤ 1685 by omega) dX11_kind_75
            have h := h.2 c20
            refine lv_aload_n hx hb dX11_kind_57 rfl (lv_at hl 2 rfl) ?_
            refine lv_iload hx hb dX11_kind_58 (lv_at hl 0 rfl) ?_
            refine S_calli hw (va_runS (own := "LeastreaderModel") (As := [.ref q7, .int v18]) (rest := []) ⟨hx, hb, hml, hown, ht⟩ (c_X11_isReached q7 H.size n8 f9 v18 h) (va_cwS 2 ht (G_S q_1545 q_1546 q_56 q_1547) rfl rfl rfl hd_110 ⟨Nat.le_of_ble_eq_true rfl, Nat.le_of_ble_eq_true rfl⟩) ⟨SB.blind, SB.pre hK (va_Pc2 (hw.n (j := 0) rfl) va_P0)⟩ rfl rfl hl.1 rfl (lv_room (Nat.le_of_ble_eq_true rfl)) dX11_kind_60 ⟨show 41 + 0 ≤ 41 by omega, show 1685 + 0 ≤ 1685 by omega⟩) (fun r21 H locs h hw => ?_)
            refine lv_if_eq (tgt := 68) hx hb dX11_kind_63 (by decide) (fun c22 => ?_) (fun c22 => ?_)
            · have h := h.1 c22
              refine lv_iinc (v := (v18 + (1 : Int32))) (lv' := [(4, .int (v18 + (1 : Int32))), (3, .int v19), (2, .ref q7)]) hx hb dX11_kind_68 hl (k := 0) rfl rfl (by decide) rfl (fun ls hl => ?_)
              refine lv_goto (tgt := 49) hx hb dX11_kind_71 (by decide) ?_
              exact ih16 (v18 + (1 : Int32)) H locs ls hw (lv_sub hl [0, 1, 2] rfl) h
            have h := h.2 c22
            refine lv_iconst (v := (3 : Int32)) hx hb dX11_kind_66 (by decide) ?_
            exact hret H locs ls 67 _ _ _ _ _ hw h rfl (show 41 ≤ 41 by omega) (show 1685 ≤ 1685 by omega) dX11_kind_67
        exact L16 ((nI n8) / (4 : Int32)) n23 ((nI n8) / (4 : Int32)) H locs ls hw (lv_sub hl [0, 1, 2] rfl) h
      have h := h.2 c16
      refine lv_aload_n hx hb dX11_kind_42 rfl (lv_at hl 1 rfl) ?_
      refine lv_iconst (v := (3 : Int32)) hx hb dX11_kind_43 (by decide) ?_
      obtain ⟨z24, h⟩ := h
      refine n_iald hx hb hK (hw.n (j := 0) rfl) z24 dX11_kind_44 ?_
      exact hret H locs ls 45 _ _ _ _ _ hw h rfl (show 41 ≤ 41 by omega) (show 1685 ≤ 1685 by omega) dX11_kind_45
    have h := h.2 c15
    refine lv_iconst (v := (0 : Int32)) hx hb dX11_kind_30 (by decide) ?_
    exact hret H locs ls 31 _ _ _ _ _ hw h rfl (show 41 ≤ 41 by omega) (show 1685 ≤ 1685 by omega) dX11_kind_31
  have h := h.2 c4
  refine lv_iconst (v := (0 : Int32)) hx hb dX11_kind_12 (by decide) ?_
  exact hret H locs ls 13 _ _ _ _ _ hw h rfl (show 0 ≤ 41 by omega) (show 0 ≤ 1685 by omega) dX11_kind_13
def wpl_X11_many_94 (μ5 : TMem) (v12 : Int32) (v13 : Int32) (Q : Int32 → TMem → Prop) : Nat → Int32 → Int32 → Prop
  | 0, _, _ => False
  | n + 1, v10, v11 =>
    wp_X11_power v13 (fun (r14 : Int32) => (r14 ≤ v10 → (Q v11 μ5)) ∧ (¬ r14 ≤ v10 → (wp_X11_setAfter μ5 v12 v13 v10 (fun (r18 : Int32) => vp_in v12 (ml 3) ∧ (((r18 &&& (μ5 3 v12.toNatClampNeg)) = 0 → (wpl_X11_many_94 μ5 v12 v13 Q n (v10 + (1 : Int32)) (v11 + (0 : Int32)))) ∧ (¬ (r18 &&& (μ5 3 v12.toNatClampNeg)) = 0 → (wpl_X11_many_94 μ5 v12 v13 Q n (v10 + (1 : Int32)) (v11 + (1 : Int32)))))))))
def wp_X11_many (μ : TMem) (a1 : Int32) (a2 : Int32) (a3 : Int32) (Q : Int32 → TMem → Prop) : Prop :=
  wp_X11_isOne a1 (fun (r1 : Int32) => wp_X11_isIn a2 (0 : Int32) (12 : Int32) (fun (r2 : Int32) => ∀ J3 : Int32 → Prop, (∀ (j4 : Int32), (wp_X11_isThrown μ r1 j4 (fun (r6 : Int32) (μ5 : TMem) => (r6 = 0 → ((¬ a3 = 0 → (∃ n8x, wpl_X11_many_94 μ5 a1 a2 Q n8x (0 : Int32) (0 : Int32))) ∧ (a3 = 0 → (wp_X11_found μ5 a1 (0 : Int32) (fun (r37 : Option AI) => (r37 = none → (wp_X11_isCrowded_n μ5 (3 : Int32) (fun (r28 : Int32) (μ27 : TMem) => (r28 = 0 → (False)) ∧ (¬ r28 = 0 → (Q (0 : Int32) μ27))))) ∧ (∀ (n25 : Nat) (f26 : Nat → Int32), r37 = some (n25, f26) → (wp_X11_isCrowded μ5 n25 f26 (3 : Int32) (fun (r31 : Int32) (μ30 : TMem) => (r31 = 0 → (wp_X11_ways n25 f26 a2 (fun (n34 : Nat) (f35 : Nat → Int32) => vp_in (a2 * ((nI n25) / (4 : Int32))) n34 ∧ (Q (f35 (a2 * ((nI n25) / (4 : Int32))).toNatClampNeg) μ30)))) ∧ (¬ r31 = 0 → (Q (0 : Int32) μ30)))))))))) ∧ (¬ r6 = 0 → (Q (0 : Int32) μ5)))) → J3 j4) → ((r2 = 0 → (J3 (0 : Int32))) ∧ (¬ r2 = 0 → (wp_X11_isIn a3 (0 : Int32) (1 : Int32) (fun (r39 : Int32) => (r39 = 0 → (J3 (0 : Int32))) ∧ (¬ r39 = 0 → ((a3 = 0 → (J3 (1 : Int32))) ∧ (¬ a3 = 0 → (((6 : Int32) ≤ a2 → (J3 (0 : Int32))) ∧ (¬ (6 : Int32) ≤ a2 → (J3 (1 : Int32)))))))))))))
set_option maxHeartbeats 4000000 in
set_option maxRecDepth 100000 in
theorem c_X11_many {l : Launch} {D : va_G} {ad : Nat → Nat} {cI cL : ClassId}  (μ : TMem) (sz : Nat) (a1 : Int32) (a2 : Int32) (a3 : Int32)  {Q : Int32 → TMem → Prop} (h : wp_X11_many μ a1 a2 a3 Q) : MMi l yX11_many (.code yX11_many cX11_many 6 (Option.some Jvm.ClassFile.FieldType.int)) 4 42 2101 [.ref (ad 0), .int a1, .int a2, .int a3] D ad cI cL sz μ [] Q := by
  refine M_meti (by decide +kernel) (Nat.le_of_ble_eq_true rfl) ?_
  intro p e s m below meth c Z ls hx hb hml hown ht hK hP0 hI hne hw hret hl
  have hl : lv_has ls 6 [(0, .ref (ad 0)), (1, .int a1), (2, .int a2), (3, .int a3)] := hl
  suffices hh : ∀ (H : Heap) (locs : List Loc), MW D (MR ad cI μ) [] (MA ad s.heap.size) s H locs → W p l e (RA 4 42 2101) s m #[.ref (ad 0), .int a1, .int a2, .int a3] below meth c H locs 0 0 Z (F0 m 0 ls []) from hh _ _ hw
  intro H locs hw
  change wp_X11_isOne a1 (fun (r1 : Int32) => wp_X11_isIn a2 (0 : Int32) (12 : Int32) (fun (r2 : Int32) => ∀ J3 : Int32 → Prop, (∀ (j4 : Int32), (wp_X11_isThrown μ r1 j4 (fun (r6 : Int32) (μ5 : TMem) => (r6 = 0 → ((¬ a3 = 0 → (∃ n8x, wpl_X11_many_94 μ5 a1 a2 Q n8x (0 : Int32) (0 : Int32))) ∧ (a3 = 0 → (wp_X11_found μ5 a1 (0 : Int32) (fun (r37 : Option AI) => (r37 = none → (wp_X11_isCrowded_n μ5 (3 : Int32) (fun (r28 : Int32) (μ27 : TMem) => (r28 = 0 → (False)) ∧ (¬ r28 = 0 → (Q (0 : Int32) μ27))))) ∧ (∀ (n25 : Nat) (f26 : Nat → Int32), r37 = some (n25, f26) → (wp_X11_isCrowded μ5 n25 f26 (3 : Int32) (fun (r31 : Int32) (μ30 : TMem) => (r31 = 0 → (wp_X11_ways n25 f26 a2 (fun (n34 : Nat) (f35 : Nat → Int32) => vp_in (a2 * ((nI n25) / (4 : Int32))) n34 ∧ (Q (f35 (a2 * ((nI n25) / (4 : Int32))).toNatClampNeg) μ30)))) ∧ (¬ r31 = 0 → (Q (0 : Int32) μ30)))))))))) ∧ (¬ r6 = 0 → (Q (0 : Int32) μ5)))) → J3 j4) → ((r2 = 0 → (J3 (0 : Int32))) ∧ (¬ r2 = 0 → (wp_X11_isIn a3 (0 : Int32) (1 : Int32) (fun (r39 : Int32) => (r39 = 0 → (J3 (0 : Int32))) ∧ (¬ r39 = 0 → ((a3 = 0 → (J3 (1 : Int32))) ∧ (¬ a3 = 0 → (((6 : Int32) ≤ a2 → (J3 (0 : Int32))) ∧ (¬ (6 : Int32) ≤ a2 → (J3 (1 : Int32))))))))))))) at h
  refine lv_aload_n hx hb dX11_many_0 rfl (lv_at hl 0 rfl) ?_
  refine lv_iload_n hx hb dX11_many_1 rfl (lv_at hl 1 rfl) ?_
  refine P_calli (va_runS (own := "LeastreaderModel") (As := [.int a1]) (rest := [.ref (ad 0)]) ⟨hx, hb, hml, hown, ht⟩ (c_X11_isOne a1 h) (va_cwS 1 ht (G_S q_1342 q_1343 q_56 q_1344) rfl rfl rfl hd_91 ⟨Nat.le_of_ble_eq_true rfl, Nat.le_of_ble_eq_true rfl⟩) ⟨PM_blind, PM_pre⟩ rfl rfl hl.1 rfl (lv_room (Nat.le_of_ble_eq_true rfl)) dX11_many_2 ⟨show 0 + 0 ≤ 42 by omega, show 0 + 0 ≤ 2101 by omega⟩) (fun r1 h => ?_)
  refine lv_iload_n hx hb dX11_many_5 rfl (lv_at hl 2 rfl) ?_
  refine lv_iconst (v := (0 : Int32)) hx hb dX11_many_6 (by decide) ?_
  refine lv_bipush (v := (12 : Int32)) hx hb dX11_many_7 (by decide) ?_
  refine P_calli (va_runS (own := "LeastreaderModel") (As := [.int a2, .int (0 : Int32), .int (12 : Int32)]) (rest := [.int r1, .ref (ad 0)]) ⟨hx, hb, hml, hown, ht⟩ (c_X11_isIn a2 (0 : Int32) (12 : Int32) h) (va_cwS 3 ht (G_S q_1345 q_1346 q_56 q_1347) rfl rfl rfl hd_78 ⟨Nat.le_of_ble_eq_true rfl, Nat.le_of_ble_eq_true rfl⟩) ⟨PM_blind, PM_pre⟩ rfl rfl hl.1 rfl (lv_room (Nat.le_of_ble_eq_true rfl)) dX11_many_9 ⟨show 0 + 0 ≤ 42 by omega, show 0 + 0 ≤ 2101 by omega⟩) (fun r2 h => ?_)
  have h := h (fun (j4 : Int32) => ∀ (H : Heap) (locs : List Loc) (ls : Array Slot), MW D (MR ad cI μ) [] (MA ad s.heap.size) s H locs → lv_has ls 6 [(0, .ref (ad 0)), (1, .int a1), (2, .int a2), (3, .int a3)] → W p l e (RA 4 42 2101) s m #[.ref (ad 0), .int a1, .int a2, .int a3] below meth c H locs 0 0 Z (F0 m 39 ls [.int j4, .int r1, .ref (ad 0)])) (fun j4 h H locs ls hw hl => by
    refine M_calli hw (MA.up hw.2.2.1.1) (va_runV (own := "LeastreaderModel") (As := [.int r1, .int j4]) (rest := []) ⟨hx, hb, hml, hown, ht⟩ (c_X11_isThrown μ H.size r1 j4 h) (cwV 2 ht (G_V q_1348 q_1350 q_26 q_56 q_1351) rfl rfl rfl ⟨rfl, hd_92⟩ ⟨Nat.le_of_ble_eq_true rfl, Nat.le_of_ble_eq_true rfl⟩) ⟨MB.blind, M_recv hK hw, MB.pre hK hI hw va_P0 ne0⟩ rfl rfl hl.1 rfl (lv_room (Nat.le_of_ble_eq_true rfl)) dX11_many_39 ⟨show 0 + 0 ≤ 42 by omega, show 0 + 0 ≤ 2101 by omega⟩) (fun r6 μ5 H locs h hw => ?_)
    refine lv_if_eq (tgt := 47) hx hb dX11_many_42 (by decide) (fun c7 => ?_) (fun c7 => ?_)
    · have h := h.1 c7
      refine lv_iload_n hx hb dX11_many_47 rfl (lv_at hl 3 rfl) ?_
      refine lv_if_ne (tgt := 88) hx hb dX11_many_48 (by decide) (fun c8 => ?_) (fun c8 => ?_)
      · have h := h.1 c8
        refine lv_iconst (v := (0 : Int32)) hx hb dX11_many_88 (by decide) ?_
        refine lv_istore (lv' := [(4, .int (0 : Int32)), (0, .ref (ad 0)), (1, .int a1), (2, .int a2), (3, .int a3)]) hx hb dX11_many_89 hl (by decide) rfl (fun ls hl => ?_)
        refine lv_iconst (v := (0 : Int32)) hx hb dX11_many_91 (by decide) ?_
        refine lv_istore (lv' := [(5, .int (0 : Int32)), (4, .int (0 : Int32)), (0, .ref (ad 0)), (1, .int a1), (2, .int a2), (3, .int a3)]) hx hb dX11_many_92 hl (by decide) rfl (fun ls hl => ?_)
        obtain ⟨n21, h⟩ := h
        have L8 : ∀ (v12 : Int32) (v13 : Int32), ∀ (n : Nat), ∀ (v10 : Int32) (v11 : Int32), ∀ (H : Heap) (locs : List Loc) (ls : Array Slot), MW D (MR ad cI μ5) [] (MA ad s.heap.size) s H locs → lv_has ls 6 [(5, .int v10), (4, .int v11), (0, .ref (ad 0)), (1, .int v12), (2, .int v13)] → wpl_X11_many_94 μ5 v12 v13 Q n v10 v11 → W p l e (RA 4 42 2101) s m #[.ref (ad 0), .int a1, .int a2, .int a3] below meth c H locs 0 0 Z (F0 m 94 ls []) := by
          intro v12 v13
          intro n
          induction n with
          | zero => intro v10 v11 H locs ls hw hl h; exact False.elim h
          | succ n ih8 =>
            intro v10 v11 H locs ls hw hl h
            change wp_X11_power v13 (fun (r14 : Int32) => (r14 ≤ v10 → (Q v11 μ5)) ∧ (¬ r14 ≤ v10 → (wp_X11_setAfter μ5 v12 v13 v10 (fun (r18 : Int32) => vp_in v12 (ml 3) ∧ (((r18 &&& (μ5 3 v12.toNatClampNeg)) = 0 → (wpl_X11_many_94 μ5 v12 v13 Q n (v10 + (1 : Int32)) (v11 + (0 : Int32)))) ∧ (¬ (r18 &&& (μ5 3 v12.toNatClampNeg)) = 0 → (wpl_X11_many_94 μ5 v12 v13 Q n (v10 + (1 : Int32)) (v11 + (1 : Int32))))))))) at h
            refine lv_iload hx hb dX11_many_94 (lv_at hl 0 rfl) ?_
            refine lv_iload_n hx hb dX11_many_96 rfl (lv_at hl 4 rfl) ?_
            refine P_calli (va_runS (own := "LeastreaderModel") (As := [.int v13]) (rest := [.int v10]) ⟨hx, hb, hml, hown, ht⟩ (c_X11_power v13 h) (va_cwS 1 ht (G_S q_1509 q_1510 q_56 q_1511) rfl rfl rfl hd_106 ⟨Nat.le_of_ble_eq_true rfl, Nat.le_of_ble_eq_true rfl⟩) ⟨PM_blind, PM_pre⟩ rfl rfl hl.1 rfl (lv_room (Nat.le_of_ble_eq_true rfl)) dX11_many_97 ⟨show 0 + 0 ≤ 42 by omega, show 0 + 0 ≤ 2101 by omega⟩) (fun r14 h => ?_)
            refine lv_icmp_ge (tgt := 137) hx hb dX11_many_100 (by decide) (fun c15 => ?_) (fun c15 => ?_)
            · have h := h.1 c15
              refine lv_iload hx hb dX11_many_137 (lv_at hl 1 rfl) ?_
              exact hret H locs ls 139 _ _ _ _ _ hw h rfl (show 0 ≤ 42 by omega) (show 0 ≤ 2101 by omega) dX11_many_139
            have h := h.2 c15
            refine lv_iload hx hb dX11_many_103 (lv_at hl 1 rfl) ?_
            refine lv_aload_n hx hb dX11_many_105 rfl (lv_at hl 2 rfl) ?_
            refine lv_iload_n hx hb dX11_many_106 rfl (lv_at hl 3 rfl) ?_
            refine lv_iload_n hx hb dX11_many_107 rfl (lv_at hl 4 rfl) ?_
            refine lv_iload hx hb dX11_many_108 (lv_at hl 0 rfl) ?_
            refine M_calli hw (MA.up hw.2.2.1.1) (va_runV (own := "LeastreaderModel") (As := [.int v12, .int v13, .int v10]) (rest := [.int v11]) ⟨hx, hb, hml, hown, ht⟩ (c_X11_setAfter μ5 H.size v12 v13 v10 h) (cwV 3 ht (G_V q_1512 q_1514 q_41 q_56 q_1515) rfl rfl rfl ⟨rfl, hd_108⟩ ⟨Nat.le_of_ble_eq_true rfl, Nat.le_of_ble_eq_true rfl⟩) ⟨MB.blind, M_recv hK hw, MB.pre hK hI hw va_P0 ne0⟩ rfl rfl hl.1 rfl (lv_room (Nat.le_of_ble_eq_true rfl)) dX11_many_110 ⟨show 0 + 0 ≤ 42 by omega, show 0 + 0 ≤ 2101 by omega⟩) (fun r18 μ16 H locs h hw => ?_)
            obtain ⟨e17, h⟩ := h
            rw [e17] at hw
            refine lv_aload_n hx hb dX11_many_113 rfl (lv_at hl 2 rfl) ?_
            refine m_get (i := 2) hx hb ht hown hK hw (by decide) (ht _ q_1315) rfl rfl dX11_many_114 ?_
            refine lv_iload_n hx hb dX11_many_117 rfl (lv_at hl 3 rfl) ?_
            obtain ⟨z19, h⟩ := h
            refine m_iald hx hb hK hw (by decide) z19 dX11_many_118 ?_
            refine lv_iand hx hb dX11_many_119 ?_
            refine lv_if_eq (tgt := 127) hx hb dX11_many_120 (by decide) (fun c20 => ?_) (fun c20 => ?_)
            · have h := h.1 c20
              refine lv_iconst (v := (0 : Int32)) hx hb dX11_many_127 (by decide) ?_
              refine lv_iadd hx hb dX11_many_128 ?_
              refine lv_istore (lv' := [(4, .int (v11 + (0 : Int32))), (5, .int v10), (0, .ref (ad 0)), (1, .int v12), (2, .int v13)]) hx hb dX11_many_129 hl (by decide) rfl (fun ls hl => ?_)
              refine lv_iinc (v := (v10 + (1 : Int32))) (lv' := [(5, .int (v10 + (1 : Int32))), (4, .int (v11 + (0 : Int32))), (0, .ref (ad 0)), (1, .int v12), (2, .int v13)]) hx hb dX11_many_131 hl (k := 1) rfl rfl (by decide) rfl (fun ls hl => ?_)
              refine lv_goto (tgt := 94) hx hb dX11_many_134 (by decide) ?_
              exact ih8 (v10 + (1 : Int32)) (v11 + (0 : Int32)) H locs ls hw (lv_sub hl [0, 1, 2, 3, 4] rfl) h
            have h := h.2 c20
            refine lv_iconst (v := (1 : Int32)) hx hb dX11_many_123 (by decide) ?_
            refine lv_goto (tgt := 128) hx hb dX11_many_124 (by decide) ?_
            refine lv_iadd hx hb dX11_many_128 ?_
            refine lv_istore (lv' := [(4, .int (v11 + (1 : Int32))), (5, .int v10), (0, .ref (ad 0)), (1, .int v12), (2, .int v13)]) hx hb dX11_many_129 hl (by decide) rfl (fun ls hl => ?_)
            refine lv_iinc (v := (v10 + (1 : Int32))) (lv' := [(5, .int (v10 + (1 : Int32))), (4, .int (v11 + (1 : Int32))), (0, .ref (ad 0)), (1, .int v12), (2, .int v13)]) hx hb dX11_many_131 hl (k := 1) rfl rfl (by decide) rfl (fun ls hl => ?_)
            refine lv_goto (tgt := 94) hx hb dX11_many_134 (by decide) ?_
            exact ih8 (v10 + (1 : Int32)) (v11 + (1 : Int32)) H locs ls hw (lv_sub hl [0, 1, 2, 3, 4] rfl) h
        exact L8 a1 a2 n21 (0 : Int32) (0 : Int32) H locs ls hw (lv_sub hl [0, 1, 2, 3, 4] rfl) h
      have h := h.2 c8
      refine lv_aload_n hx hb dX11_many_51 rfl (lv_at hl 0 rfl) ?_
      refine lv_iload_n hx hb dX11_many_52 rfl (lv_at hl 1 rfl) ?_
      refine lv_iconst (v := (0 : Int32)) hx hb dX11_many_53 (by decide) ?_
      refine M_callA hw (MA.up hw.2.2.1.1) (va_runV (own := "LeastreaderModel") (As := [.int a1, .int (0 : Int32)]) (rest := []) ⟨hx, hb, hml, hown, ht⟩ (c_X11_found μ5 H.size a1 (0 : Int32) h) (cwV 2 ht (G_V q_1448 q_1450 q_36 q_56 q_1451) rfl rfl rfl ⟨rfl, hd_103⟩ ⟨Nat.le_of_ble_eq_true rfl, Nat.le_of_ble_eq_true rfl⟩) ⟨MB.blind, M_recv hK hw, MB.pre hK hI hw va_P0 ne0⟩ rfl rfl hl.1 rfl (lv_room (Nat.le_of_ble_eq_true rfl)) dX11_many_54 ⟨show 0 + 41 ≤ 42 by omega, show 0 + 1685 ≤ 2101 by omega⟩) (fun μ22 H locs h hw => ?_) (fun q24 n25 f26 μ22 H locs hq24 h hw => ?_)
      · skip
        obtain ⟨e23, h⟩ := h
        rw [e23] at hw
        have h := h.1 rfl
        refine lv_astoreN (lv' := [(4, .null), (0, .ref (ad 0)), (1, .int a1), (2, .int a2), (3, .int a3)]) hx hb dX11_many_57 hl (by decide) rfl (fun ls hl => ?_)
        refine lv_aload_n hx hb dX11_many_59 rfl (lv_at hl 1 rfl) ?_
        refine lv_aloadN hx hb dX11_many_60 (lv_at hl 0 rfl) ?_
        refine lv_iconst (v := (3 : Int32)) hx hb dX11_many_62 (by decide) ?_
        refine M_calli hw (MA.up hw.2.2.1.1) (va_runV (own := "LeastreaderModel") (As := [.null, .int (3 : Int32)]) (rest := []) ⟨hx, hb, hml, hown, ht⟩ (c_X11_isCrowded_n μ5 H.size (3 : Int32) h) (cwV 2 ht (G_V q_1520 q_1522 q_42 q_56 q_1523) rfl rfl rfl ⟨rfl, hd_109⟩ ⟨Nat.le_of_ble_eq_true rfl, Nat.le_of_ble_eq_true rfl⟩) ⟨MB.blind, M_recv hK hw, MB.pre hK hI hw va_P0 ne0⟩ rfl rfl hl.1 rfl (lv_room (Nat.le_of_ble_eq_true rfl)) dX11_many_63 ⟨show 41 + 0 ≤ 42 by omega, show 1685 + 0 ≤ 2101 by omega⟩) (fun r28 μ27 H locs h hw => ?_)
        refine lv_if_eq (tgt := 73) hx hb dX11_many_66 (by decide) (fun c29 => ?_) (fun c29 => ?_)
        · have h := h.1 c29
          refine lv_aloadN hx hb dX11_many_73 (lv_at hl 0 rfl) ?_
          refine lv_iload_n hx hb dX11_many_75 rfl (lv_at hl 3 rfl) ?_
          exact False.elim h
        have h := h.2 c29
        refine lv_iconst (v := (0 : Int32)) hx hb dX11_many_69 (by decide) ?_
        refine lv_goto (tgt := 87) hx hb dX11_many_70 (by decide) ?_
        exact hret H locs ls 87 _ _ _ _ _ hw h rfl (show 41 ≤ 42 by omega) (show 1685 ≤ 2101 by omega) dX11_many_87
      obtain ⟨e23, h⟩ := h
      rw [e23] at hw
      have h := h.2 _ _ rfl
      have hw : MW D (MR ad cI μ5) [eI cI q24 n25 f26] (MA ad s.heap.size) s H locs := hw
      refine lv_astore (lv' := [(4, .ref q24), (0, .ref (ad 0)), (1, .int a1), (2, .int a2), (3, .int a3)]) hx hb dX11_many_57 hl (by decide) rfl (fun ls hl => ?_)
      refine lv_aload_n hx hb dX11_many_59 rfl (lv_at hl 1 rfl) ?_
      refine lv_aload hx hb dX11_many_60 (lv_at hl 0 rfl) ?_
      refine lv_iconst (v := (3 : Int32)) hx hb dX11_many_62 (by decide) ?_
      refine M_calli hw (MA.up hw.2.2.1.1) (va_runV (own := "LeastreaderModel") (As := [.ref q24, .int (3 : Int32)]) (rest := []) ⟨hx, hb, hml, hown, ht⟩ (c_X11_isCrowded q24 μ5 H.size n25 f26 (3 : Int32) h) (cwV 2 ht (G_V q_1520 q_1522 q_42 q_56 q_1523) rfl rfl rfl ⟨rfl, hd_109⟩ ⟨Nat.le_of_ble_eq_true rfl, Nat.le_of_ble_eq_true rfl⟩) ⟨MB.blind, M_recv hK hw, MB.pre hK hI hw (va_Pc2 (hw.n (j := 0) rfl) va_P0) (neC (hw.ne (j := 0) rfl) ne0)⟩ rfl rfl hl.1 rfl (lv_room (Nat.le_of_ble_eq_true rfl)) dX11_many_63 ⟨show 41 + 0 ≤ 42 by omega, show 1685 + 0 ≤ 2101 by omega⟩) (fun r31 μ30 H locs h hw => ?_)
      refine lv_if_eq (tgt := 73) hx hb dX11_many_66 (by decide) (fun c32 => ?_) (fun c32 => ?_)
      · have h := h.1 c32
        refine lv_aload hx hb dX11_many_73 (lv_at hl 0 rfl) ?_
        refine lv_iload_n hx hb dX11_many_75 rfl (lv_at hl 3 rfl) ?_
        refine S_callA hw (va_runS (own := "LeastreaderModel") (As := [.ref q24, .int a2]) (rest := []) ⟨hx, hb, hml, hown, ht⟩ (c_X11_ways q24 H.size n25 f26 a2 h) (va_cwS 2 ht (G_S q_1552 q_1553 q_56 q_1554) rfl rfl rfl hd_111 ⟨Nat.le_of_ble_eq_true rfl, Nat.le_of_ble_eq_true rfl⟩) ⟨SB.blind, SB.pre hK (va_Pc2 (hw.n (j := 0) rfl) va_P0)⟩ rfl rfl hl.1 rfl (lv_room (Nat.le_of_ble_eq_true rfl)) dX11_many_76 ⟨show 41 + 1 ≤ 42 by omega, show 1685 + 416 ≤ 2101 by omega⟩) (fun _ _ h _ => by obtain ⟨_, _, h, _⟩ := h; cases h) (fun q33 n34 f35 H locs hq33 h hw => ?_)
        obtain ⟨_, _, e9, h⟩ := h
        cases e9
        have hw : MW D (MR ad cI μ30) [eI cI q24 n25 f26, eI cI q33 n34 f35] (MA ad s.heap.size) s H locs := hw
        refine lv_iload_n hx hb dX11_many_79 rfl (lv_at hl 3 rfl) ?_
        refine lv_aload hx hb dX11_many_80 (lv_at hl 0 rfl) ?_
        refine n_alenI hx hb hK (hw.n (j := 0) rfl) dX11_many_82 ?_
        refine lv_iconst (v := (4 : Int32)) hx hb dX11_many_83 (by decide) ?_
        refine lv_idiv hx hb dX11_many_84 (by decide) ?_
        refine lv_imul hx hb dX11_many_85 ?_
        obtain ⟨z36, h⟩ := h
        refine n_iald hx hb hK (hw.n (j := 1) rfl) z36 dX11_many_86 ?_
        exact hret H locs ls 87 _ _ _ _ _ hw h rfl (show 42 ≤ 42 by omega) (show 2101 ≤ 2101 by omega) dX11_many_87
      have h := h.2 c32
      refine lv_iconst (v := (0 : Int32)) hx hb dX11_many_69 (by decide) ?_
      refine lv_goto (tgt := 87) hx hb dX11_many_70 (by decide) ?_
      exact hret H locs ls 87 _ _ _ _ _ hw h rfl (show 41 ≤ 42 by omega) (show 1685 ≤ 2101 by omega) dX11_many_87
    have h := h.2 c7
    refine lv_iconst (v := (0 : Int32)) hx hb dX11_many_45 (by decide) ?_
    exact hret H locs ls 46 _ _ _ _ _ hw h rfl (show 0 ≤ 42 by omega) (show 0 ≤ 2101 by omega) dX11_many_46)
  refine lv_if_eq (tgt := 38) hx hb dX11_many_12 (by decide) (fun c38 => ?_) (fun c38 => ?_)
  · have h := h.1 c38
    refine lv_iconst (v := (0 : Int32)) hx hb dX11_many_38 (by decide) ?_
    exact h H locs ls hw (lv_sub hl [0, 1, 2, 3] rfl)
  have h := h.2 c38
  refine lv_iload_n hx hb dX11_many_15 rfl (lv_at hl 3 rfl) ?_
  refine lv_iconst (v := (0 : Int32)) hx hb dX11_many_16 (by decide) ?_
  refine lv_iconst (v := (1 : Int32)) hx hb dX11_many_17 (by decide) ?_
  refine P_calli (va_runS (own := "LeastreaderModel") (As := [.int a3, .int (0 : Int32), .int (1 : Int32)]) (rest := [.int r1, .ref (ad 0)]) ⟨hx, hb, hml, hown, ht⟩ (c_X11_isIn a3 (0 : Int32) (1 : Int32) h) (va_cwS 3 ht (G_S q_1345 q_1346 q_56 q_1347) rfl rfl rfl hd_78 ⟨Nat.le_of_ble_eq_true rfl, Nat.le_of_ble_eq_true rfl⟩) ⟨PM_blind, PM_pre⟩ rfl rfl hl.1 rfl (lv_room (Nat.le_of_ble_eq_true rfl)) dX11_many_18 ⟨show 0 + 0 ≤ 42 by omega, show 0 + 0 ≤ 2101 by omega⟩) (fun r39 h => ?_)
  refine lv_if_eq (tgt := 38) hx hb dX11_many_21 (by decide) (fun c40 => ?_) (fun c40 => ?_)
  · have h := h.1 c40
    refine lv_iconst (v := (0 : Int32)) hx hb dX11_many_38 (by decide) ?_
    exact h H locs ls hw (lv_sub hl [0, 1, 2, 3] rfl)
  have h := h.2 c40
  refine lv_iload_n hx hb dX11_many_24 rfl (lv_at hl 3 rfl) ?_
  refine lv_if_eq (tgt := 34) hx hb dX11_many_25 (by decide) (fun c41 => ?_) (fun c41 => ?_)
  · have h := h.1 c41
    refine lv_iconst (v := (1 : Int32)) hx hb dX11_many_34 (by decide) ?_
    refine lv_goto (tgt := 39) hx hb dX11_many_35 (by decide) ?_
    exact h H locs ls hw (lv_sub hl [0, 1, 2, 3] rfl)
  have h := h.2 c41
  refine lv_iload_n hx hb dX11_many_28 rfl (lv_at hl 2 rfl) ?_
  refine lv_bipush (v := (6 : Int32)) hx hb dX11_many_29 (by decide) ?_
  refine lv_icmp_ge (tgt := 38) hx hb dX11_many_31 (by decide) (fun c42 => ?_) (fun c42 => ?_)
  · have h := h.1 c42
    refine lv_iconst (v := (0 : Int32)) hx hb dX11_many_38 (by decide) ?_
    exact h H locs ls hw (lv_sub hl [0, 1, 2, 3] rfl)
  have h := h.2 c42
  refine lv_iconst (v := (1 : Int32)) hx hb dX11_many_34 (by decide) ?_
  refine lv_goto (tgt := 39) hx hb dX11_many_35 (by decide) ?_
  exact h H locs ls hw (lv_sub hl [0, 1, 2, 3] rfl)
end
/-! part 74.r13 -/
section
def wpl_X11_isAlike_130 (μ46 : TMem) (f13 : Nat → Int32) (n12 : Nat) (f36 : Nat → Int32) (n35 : Nat) (Q : Int32 → TMem → Prop) : Nat → Int32 → Int32 → Prop
  | 0, _, _ => False
  | n + 1, v52, v53 =>
    (v53 = 0 → (isB v53 ∧ (Q v53 μ46))) ∧ (¬ v53 = 0 → (((nI n12) ≤ v52 → (isB v53 ∧ (Q v53 μ46))) ∧ (¬ (nI n12) ≤ v52 → (vp_in v52 n12 ∧ (vp_in v52 n35 ∧ ((¬ (f13 v52.toNatClampNeg) = (f36 v52.toNatClampNeg) → (wpl_X11_isAlike_130 μ46 f13 n12 f36 n35 Q n (v52 + (1 : Int32)) (0 : Int32))) ∧ ((f13 v52.toNatClampNeg) = (f36 v52.toNatClampNeg) → (wpl_X11_isAlike_130 μ46 f13 n12 f36 n35 Q n (v52 + (1 : Int32)) (1 : Int32)))))))))
def wp_X11_isAlike (μ : TMem) (a1 : Int32) (a2 : Int32) (a3 : Int32) (Q : Int32 → TMem → Prop) : Prop :=
  wp_X11_isOne a1 (fun (r1 : Int32) => ∀ J2 : Int32 → Prop, (∀ (j3 : Int32), (wp_X11_isIn a3 (0 : Int32) (1 : Int32) (fun (r4 : Int32) => wp_X11_isThrown μ j3 r4 (fun (r6 : Int32) (μ5 : TMem) => (r6 = 0 → ((¬ a3 = 0 → (wp_X11_found μ5 a1 (0 : Int32) (fun (r64 : Option AI) => (r64 = none → (wp_X11_found μ5 a2 (0 : Int32) (fun (r31 : Option AI) => (r31 = none → (wp_X11_isCrowded_n μ5 (3 : Int32) (fun (r20 : Int32) (μ19 : TMem) => (¬ r20 = 0 → (Q (0 : Int32) μ19)) ∧ (r20 = 0 → (wp_X11_isCrowded_n μ19 (3 : Int32) (fun (r23 : Int32) (μ22 : TMem) => (r23 = 0 → (False)) ∧ (¬ r23 = 0 → (Q (0 : Int32) μ22)))))))) ∧ (∀ (n17 : Nat) (f18 : Nat → Int32), r31 = some (n17, f18) → (wp_X11_isCrowded_n μ5 (3 : Int32) (fun (r26 : Int32) (μ25 : TMem) => (¬ r26 = 0 → (Q (0 : Int32) μ25)) ∧ (r26 = 0 → (wp_X11_isCrowded μ25 n17 f18 (3 : Int32) (fun (r29 : Int32) (μ28 : TMem) => (r29 = 0 → (False)) ∧ (¬ r29 = 0 → (Q (0 : Int32) μ28))))))))))) ∧ (∀ (n12 : Nat) (f13 : Nat → Int32), r64 = some (n12, f13) → (wp_X11_found μ5 a2 (0 : Int32) (fun (r63 : Option AI) => (r63 = none → (wp_X11_isCrowded μ5 n12 f13 (3 : Int32) (fun (r38 : Int32) (μ37 : TMem) => (¬ r38 = 0 → (Q (0 : Int32) μ37)) ∧ (r38 = 0 → (wp_X11_isCrowded_n μ37 (3 : Int32) (fun (r41 : Int32) (μ40 : TMem) => (r41 = 0 → (False)) ∧ (¬ r41 = 0 → (Q (0 : Int32) μ40)))))))) ∧ (∀ (n35 : Nat) (f36 : Nat → Int32), r63 = some (n35, f36) → (wp_X11_isCrowded μ5 n12 f13 (3 : Int32) (fun (r44 : Int32) (μ43 : TMem) => (¬ r44 = 0 → (Q (0 : Int32) μ43)) ∧ (r44 = 0 → (wp_X11_isCrowded μ43 n35 f36 (3 : Int32) (fun (r47 : Int32) (μ46 : TMem) => (r47 = 0 → (∀ J49 : Int32 → Prop, (∀ (j50 : Int32), (∃ n50x, wpl_X11_isAlike_130 μ46 f13 n12 f36 n35 Q n50x (0 : Int32) j50) → J49 j50) → ((¬ (nI n12) = (nI n35) → (J49 (0 : Int32))) ∧ ((nI n12) = (nI n35) → (J49 (1 : Int32)))))) ∧ (¬ r47 = 0 → (Q (0 : Int32) μ46)))))))))))))) ∧ (a3 = 0 → (wp_X11_pairsOf μ5 a1 a2 (fun (r80 : Option AI) => (r80 = none → (wp_X11_isCrowded_n μ5 (3 : Int32) (fun (r71 : Int32) (μ70 : TMem) => (¬ r71 = 0 → (Q (0 : Int32) μ70)) ∧ (r71 = 0 → (False))))) ∧ (∀ (n68 : Nat) (f69 : Nat → Int32), r80 = some (n68, f69) → (wp_X11_isCrowded μ5 n68 f69 (3 : Int32) (fun (r74 : Int32) (μ73 : TMem) => (¬ r74 = 0 → (Q (0 : Int32) μ73)) ∧ (r74 = 0 → (wp_X11_isApart μ73 a1 a2 n68 f69 (fun (r78 : Int32) => (¬ r78 = 0 → (Q (0 : Int32) μ73)) ∧ (r78 = 0 → (Q (1 : Int32) μ73))))))))))))) ∧ (¬ r6 = 0 → (Q (0 : Int32) μ5))))) → J2 j3) → ((r1 = 0 → (J2 (0 : Int32))) ∧ (¬ r1 = 0 → (wp_X11_isOne a2 (fun (r82 : Int32) => (r82 = 0 → (J2 (0 : Int32))) ∧ (¬ r82 = 0 → (J2 (1 : Int32))))))))
set_option maxHeartbeats 4000000 in
set_option maxRecDepth 100000 in
theorem c_X11_isAlike {l : Launch} {D : va_G} {ad : Nat → Nat} {cI cL : ClassId}  (μ : TMem) (sz : Nat) (a1 : Int32) (a2 : Int32) (a3 : Int32)  {Q : Int32 → TMem → Prop} (h : wp_X11_isAlike μ a1 a2 a3 Q) : MMi l yX11_isAlike (.code yX11_isAlike cX11_isAlike 8 (Option.some Jvm.ClassFile.FieldType.boolean)) 4 82 3370 [.ref (ad 0), .int a1, .int a2, .int a3] D ad cI cL sz μ [] Q := by
  refine M_meti (by decide +kernel) (Nat.le_of_ble_eq_true rfl) ?_
  intro p e s m below meth c Z ls hx hb hml hown ht hK hP0 hI hne hw hret hl
  have hl : lv_has ls 8 [(0, .ref (ad 0)), (1, .int a1), (2, .int a2), (3, .int a3)] := hl
  suffices hh : ∀ (H : Heap) (locs : List Loc), MW D (MR ad cI μ) [] (MA ad s.heap.size) s H locs → W p l e (RA 4 82 3370) s m #[.ref (ad 0), .int a1, .int a2, .int a3] below meth c H locs 0 0 Z (F0 m 0 ls []) from hh _ _ hw
  intro H locs hw
  change wp_X11_isOne a1 (fun (r1 : Int32) => ∀ J2 : Int32 → Prop, (∀ (j3 : Int32), (wp_X11_isIn a3 (0 : Int32) (1 : Int32) (fun (r4 : Int32) => wp_X11_isThrown μ j3 r4 (fun (r6 : Int32) (μ5 : TMem) => (r6 = 0 → ((¬ a3 = 0 → (wp_X11_found μ5 a1 (0 : Int32) (fun (r64 : Option AI) => (r64 = none → (wp_X11_found μ5 a2 (0 : Int32) (fun (r31 : Option AI) => (r31 = none → (wp_X11_isCrowded_n μ5 (3 : Int32) (fun (r20 : Int32) (μ19 : TMem) => (¬ r20 = 0 → (Q (0 : Int32) μ19)) ∧ (r20 = 0 → (wp_X11_isCrowded_n μ19 (3 : Int32) (fun (r23 : Int32) (μ22 : TMem) => (r23 = 0 → (False)) ∧ (¬ r23 = 0 → (Q (0 : Int32) μ22)))))))) ∧ (∀ (n17 : Nat) (f18 : Nat → Int32), r31 = some (n17, f18) → (wp_X11_isCrowded_n μ5 (3 : Int32) (fun (r26 : Int32) (μ25 : TMem) => (¬ r26 = 0 → (Q (0 : Int32) μ25)) ∧ (r26 = 0 → (wp_X11_isCrowded μ25 n17 f18 (3 : Int32) (fun (r29 : Int32) (μ28 : TMem) => (r29 = 0 → (False)) ∧ (¬ r29 = 0 → (Q (0 : Int32) μ28))))))))))) ∧ (∀ (n12 : Nat) (f13 : Nat → Int32), r64 = some (n12, f13) → (wp_X11_found μ5 a2 (0 : Int32) (fun (r63 : Option AI) => (r63 = none → (wp_X11_isCrowded μ5 n12 f13 (3 : Int32) (fun (r38 : Int32) (μ37 : TMem) => (¬ r38 = 0 → (Q (0 : Int32) μ37)) ∧ (r38 = 0 → (wp_X11_isCrowded_n μ37 (3 : Int32) (fun (r41 : Int32) (μ40 : TMem) => (r41 = 0 → (False)) ∧ (¬ r41 = 0 → (Q (0 : Int32) μ40)))))))) ∧ (∀ (n35 : Nat) (f36 : Nat → Int32), r63 = some (n35, f36) → (wp_X11_isCrowded μ5 n12 f13 (3 : Int32) (fun (r44 : Int32) (μ43 : TMem) => (¬ r44 = 0 → (Q (0 : Int32) μ43)) ∧ (r44 = 0 → (wp_X11_isCrowded μ43 n35 f36 (3 : Int32) (fun (r47 : Int32) (μ46 : TMem) => (r47 = 0 → (∀ J49 : Int32 → Prop, (∀ (j50 : Int32), (∃ n50x, wpl_X11_isAlike_130 μ46 f13 n12 f36 n35 Q n50x (0 : Int32) j50) → J49 j50) → ((¬ (nI n12) = (nI n35) → (J49 (0 : Int32))) ∧ ((nI n12) = (nI n35) → (J49 (1 : Int32)))))) ∧ (¬ r47 = 0 → (Q (0 : Int32) μ46)))))))))))))) ∧ (a3 = 0 → (wp_X11_pairsOf μ5 a1 a2 (fun (r80 : Option AI) => (r80 = none → (wp_X11_isCrowded_n μ5 (3 : Int32) (fun (r71 : Int32) (μ70 : TMem) => (¬ r71 = 0 → (Q (0 : Int32) μ70)) ∧ (r71 = 0 → (False))))) ∧ (∀ (n68 : Nat) (f69 : Nat → Int32), r80 = some (n68, f69) → (wp_X11_isCrowded μ5 n68 f69 (3 : Int32) (fun (r74 : Int32) (μ73 : TMem) => (¬ r74 = 0 → (Q (0 : Int32) μ73)) ∧ (r74 = 0 → (wp_X11_isApart μ73 a1 a2 n68 f69 (fun (r78 : Int32) => (¬ r78 = 0 → (Q (0 : Int32) μ73)) ∧ (r78 = 0 → (Q (1 : Int32) μ73))))))))))))) ∧ (¬ r6 = 0 → (Q (0 : Int32) μ5))))) → J2 j3) → ((r1 = 0 → (J2 (0 : Int32))) ∧ (¬ r1 = 0 → (wp_X11_isOne a2 (fun (r82 : Int32) => (r82 = 0 → (J2 (0 : Int32))) ∧ (¬ r82 = 0 → (J2 (1 : Int32)))))))) at h
  refine lv_aload_n hx hb dX11_isAlike_0 rfl (lv_at hl 0 rfl) ?_
  refine lv_iload_n hx hb dX11_isAlike_1 rfl (lv_at hl 1 rfl) ?_
  refine P_calli (va_runS (own := "LeastreaderModel") (As := [.int a1]) (rest := [.ref (ad 0)]) ⟨hx, hb, hml, hown, ht⟩ (c_X11_isOne a1 h) (va_cwS 1 ht (G_S q_1342 q_1343 q_56 q_1344) rfl rfl rfl hd_91 ⟨Nat.le_of_ble_eq_true rfl, Nat.le_of_ble_eq_true rfl⟩) ⟨PM_blind, PM_pre⟩ rfl rfl hl.1 rfl (lv_room (Nat.le_of_ble_eq_true rfl)) dX11_isAlike_2 ⟨show 0 + 0 ≤ 82 by omega, show 0 + 0 ≤ 3370 by omega⟩) (fun r1 h => ?_)
  have h := h (fun (j3 : Int32) => ∀ (H : Heap) (locs : List Loc) (ls : Array Slot), MW D (MR ad cI μ) [] (MA ad s.heap.size) s H locs → lv_has ls 8 [(0, .ref (ad 0)), (1, .int a1), (2, .int a2), (3, .int a3)] → W p l e (RA 4 82 3370) s m #[.ref (ad 0), .int a1, .int a2, .int a3] below meth c H locs 0 0 Z (F0 m 20 ls [.int j3, .ref (ad 0)])) (fun j3 h H locs ls hw hl => by
    refine lv_iload_n hx hb dX11_isAlike_20 rfl (lv_at hl 3 rfl) ?_
    refine lv_iconst (v := (0 : Int32)) hx hb dX11_isAlike_21 (by decide) ?_
    refine lv_iconst (v := (1 : Int32)) hx hb dX11_isAlike_22 (by decide) ?_
    refine P_calli (va_runS (own := "LeastreaderModel") (As := [.int a3, .int (0 : Int32), .int (1 : Int32)]) (rest := [.int j3, .ref (ad 0)]) ⟨hx, hb, hml, hown, ht⟩ (c_X11_isIn a3 (0 : Int32) (1 : Int32) h) (va_cwS 3 ht (G_S q_1345 q_1346 q_56 q_1347) rfl rfl rfl hd_78 ⟨Nat.le_of_ble_eq_true rfl, Nat.le_of_ble_eq_true rfl⟩) ⟨PM_blind, PM_pre⟩ rfl rfl hl.1 rfl (lv_room (Nat.le_of_ble_eq_true rfl)) dX11_isAlike_23 ⟨show 0 + 0 ≤ 82 by omega, show 0 + 0 ≤ 3370 by omega⟩) (fun r4 h => ?_)
    refine M_calli hw (MA.up hw.2.2.1.1) (va_runV (own := "LeastreaderModel") (As := [.int j3, .int r4]) (rest := []) ⟨hx, hb, hml, hown, ht⟩ (c_X11_isThrown μ H.size j3 r4 h) (cwV 2 ht (G_V q_1348 q_1350 q_26 q_56 q_1351) rfl rfl rfl ⟨rfl, hd_92⟩ ⟨Nat.le_of_ble_eq_true rfl, Nat.le_of_ble_eq_true rfl⟩) ⟨MB.blind, M_recv hK hw, MB.pre hK hI hw va_P0 ne0⟩ rfl rfl hl.1 rfl (lv_room (Nat.le_of_ble_eq_true rfl)) dX11_isAlike_26 ⟨show 0 + 0 ≤ 82 by omega, show 0 + 0 ≤ 3370 by omega⟩) (fun r6 μ5 H locs h hw => ?_)
    refine lv_if_eq (tgt := 34) hx hb dX11_isAlike_29 (by decide) (fun c7 => ?_) (fun c7 => ?_)
    · have h := h.1 c7
      refine lv_iload_n hx hb dX11_isAlike_34 rfl (lv_at hl 3 rfl) ?_
      refine lv_if_ne (tgt := 73) hx hb dX11_isAlike_35 (by decide) (fun c8 => ?_) (fun c8 => ?_)
      · have h := h.1 c8
        refine lv_aload_n hx hb dX11_isAlike_73 rfl (lv_at hl 0 rfl) ?_
        refine lv_iload_n hx hb dX11_isAlike_74 rfl (lv_at hl 1 rfl) ?_
        refine lv_iconst (v := (0 : Int32)) hx hb dX11_isAlike_75 (by decide) ?_
        refine M_callA hw (MA.up hw.2.2.1.1) (va_runV (own := "LeastreaderModel") (As := [.int a1, .int (0 : Int32)]) (rest := []) ⟨hx, hb, hml, hown, ht⟩ (c_X11_found μ5 H.size a1 (0 : Int32) h) (cwV 2 ht (G_V q_1448 q_1450 q_36 q_56 q_1451) rfl rfl rfl ⟨rfl, hd_103⟩ ⟨Nat.le_of_ble_eq_true rfl, Nat.le_of_ble_eq_true rfl⟩) ⟨MB.blind, M_recv hK hw, MB.pre hK hI hw va_P0 ne0⟩ rfl rfl hl.1 rfl (lv_room (Nat.le_of_ble_eq_true rfl)) dX11_isAlike_76 ⟨show 0 + 41 ≤ 82 by omega, show 0 + 1685 ≤ 3370 by omega⟩) (fun μ9 H locs h hw => ?_) (fun q11 n12 f13 μ9 H locs hq11 h hw => ?_)
        · skip
          obtain ⟨e10, h⟩ := h
          rw [e10] at hw
          have h := h.1 rfl
          refine lv_astoreN (lv' := [(4, .null), (0, .ref (ad 0)), (1, .int a1), (2, .int a2), (3, .int a3)]) hx hb dX11_isAlike_79 hl (by decide) rfl (fun ls hl => ?_)
          refine lv_aload_n hx hb dX11_isAlike_81 rfl (lv_at hl 1 rfl) ?_
          refine lv_iload_n hx hb dX11_isAlike_82 rfl (lv_at hl 3 rfl) ?_
          refine lv_iconst (v := (0 : Int32)) hx hb dX11_isAlike_83 (by decide) ?_
          refine M_callA hw (MA.up hw.2.2.1.1) (va_runV (own := "LeastreaderModel") (As := [.int a2, .int (0 : Int32)]) (rest := []) ⟨hx, hb, hml, hown, ht⟩ (c_X11_found μ5 H.size a2 (0 : Int32) h) (cwV 2 ht (G_V q_1448 q_1450 q_36 q_56 q_1451) rfl rfl rfl ⟨rfl, hd_103⟩ ⟨Nat.le_of_ble_eq_true rfl, Nat.le_of_ble_eq_true rfl⟩) ⟨MB.blind, M_recv hK hw, MB.pre hK hI hw va_P0 ne0⟩ rfl rfl hl.1 rfl (lv_room (Nat.le_of_ble_eq_true rfl)) dX11_isAlike_84 ⟨show 41 + 41 ≤ 82 by omega, show 1685 + 1685 ≤ 3370 by omega⟩) (fun μ14 H locs h hw => ?_) (fun q16 n17 f18 μ14 H locs hq16 h hw => ?_)
          · skip
            obtain ⟨e15, h⟩ := h
            rw [e15] at hw
            have h := h.1 rfl
            refine lv_astoreN (lv' := [(5, .null), (4, .null), (0, .ref (ad 0)), (1, .int a1), (2, .int a2), (3, .int a3)]) hx hb dX11_isAlike_87 hl (by decide) rfl (fun ls hl => ?_)
            refine lv_aload_n hx hb dX11_isAlike_89 rfl (lv_at hl 2 rfl) ?_
            refine lv_aloadN hx hb dX11_isAlike_90 (lv_at hl 1 rfl) ?_
            refine lv_iconst (v := (3 : Int32)) hx hb dX11_isAlike_92 (by decide) ?_
            refine M_calli hw (MA.up hw.2.2.1.1) (va_runV (own := "LeastreaderModel") (As := [.null, .int (3 : Int32)]) (rest := []) ⟨hx, hb, hml, hown, ht⟩ (c_X11_isCrowded_n μ5 H.size (3 : Int32) h) (cwV 2 ht (G_V q_1520 q_1522 q_42 q_56 q_1523) rfl rfl rfl ⟨rfl, hd_109⟩ ⟨Nat.le_of_ble_eq_true rfl, Nat.le_of_ble_eq_true rfl⟩) ⟨MB.blind, M_recv hK hw, MB.pre hK hI hw va_P0 ne0⟩ rfl rfl hl.1 rfl (lv_room (Nat.le_of_ble_eq_true rfl)) dX11_isAlike_93 ⟨show 82 + 0 ≤ 82 by omega, show 3370 + 0 ≤ 3370 by omega⟩) (fun r20 μ19 H locs h hw => ?_)
            refine lv_if_ne (tgt := 109) hx hb dX11_isAlike_96 (by decide) (fun c21 => ?_) (fun c21 => ?_)
            · have h := h.1 c21
              refine lv_iconst (v := (0 : Int32)) hx hb dX11_isAlike_109 (by decide) ?_
              exact hret H locs ls 110 _ _ _ _ _ hw h rfl (show 82 ≤ 82 by omega) (show 3370 ≤ 3370 by omega) dX11_isAlike_110
            have h := h.2 c21
            refine lv_aload_n hx hb dX11_isAlike_99 rfl (lv_at hl 2 rfl) ?_
            refine lv_aloadN hx hb dX11_isAlike_100 (lv_at hl 0 rfl) ?_
            refine lv_iconst (v := (3 : Int32)) hx hb dX11_isAlike_102 (by decide) ?_
            refine M_calli hw (MA.up hw.2.2.1.1) (va_runV (own := "LeastreaderModel") (As := [.null, .int (3 : Int32)]) (rest := []) ⟨hx, hb, hml, hown, ht⟩ (c_X11_isCrowded_n μ19 H.size (3 : Int32) h) (cwV 2 ht (G_V q_1520 q_1522 q_42 q_56 q_1523) rfl rfl rfl ⟨rfl, hd_109⟩ ⟨Nat.le_of_ble_eq_true rfl, Nat.le_of_ble_eq_true rfl⟩) ⟨MB.blind, M_recv hK hw, MB.pre hK hI hw va_P0 ne0⟩ rfl rfl hl.1 rfl (lv_room (Nat.le_of_ble_eq_true rfl)) dX11_isAlike_103 ⟨show 82 + 0 ≤ 82 by omega, show 3370 + 0 ≤ 3370 by omega⟩) (fun r23 μ22 H locs h hw => ?_)
            refine lv_if_eq (tgt := 111) hx hb dX11_isAlike_106 (by decide) (fun c24 => ?_) (fun c24 => ?_)
            · have h := h.1 c24
              refine lv_aloadN hx hb dX11_isAlike_111 (lv_at hl 1 rfl) ?_
              exact False.elim h
            have h := h.2 c24
            refine lv_iconst (v := (0 : Int32)) hx hb dX11_isAlike_109 (by decide) ?_
            exact hret H locs ls 110 _ _ _ _ _ hw h rfl (show 82 ≤ 82 by omega) (show 3370 ≤ 3370 by omega) dX11_isAlike_110
          obtain ⟨e15, h⟩ := h
          rw [e15] at hw
          have h := h.2 _ _ rfl
          have hw : MW D (MR ad cI μ5) [eI cI q16 n17 f18] (MA ad s.heap.size) s H locs := hw
          refine lv_astore (lv' := [(5, .ref q16), (4, .null), (0, .ref (ad 0)), (1, .int a1), (2, .int a2), (3, .int a3)]) hx hb dX11_isAlike_87 hl (by decide) rfl (fun ls hl => ?_)
          refine lv_aload_n hx hb dX11_isAlike_89 rfl (lv_at hl 2 rfl) ?_
          refine lv_aloadN hx hb dX11_isAlike_90 (lv_at hl 1 rfl) ?_
          refine lv_iconst (v := (3 : Int32)) hx hb dX11_isAlike_92 (by decide) ?_
          refine M_calli hw (MA.up hw.2.2.1.1) (va_runV (own := "LeastreaderModel") (As := [.null, .int (3 : Int32)]) (rest := []) ⟨hx, hb, hml, hown, ht⟩ (c_X11_isCrowded_n μ5 H.size (3 : Int32) h) (cwV 2 ht (G_V q_1520 q_1522 q_42 q_56 q_1523) rfl rfl rfl ⟨rfl, hd_109⟩ ⟨Nat.le_of_ble_eq_true rfl, Nat.le_of_ble_eq_true rfl⟩) ⟨MB.blind, M_recv hK hw, MB.pre hK hI hw va_P0 ne0⟩ rfl rfl hl.1 rfl (lv_room (Nat.le_of_ble_eq_true rfl)) dX11_isAlike_93 ⟨show 82 + 0 ≤ 82 by omega, show 3370 + 0 ≤ 3370 by omega⟩) (fun r26 μ25 H locs h hw => ?_)
          refine lv_if_ne (tgt := 109) hx hb dX11_isAlike_96 (by decide) (fun c27 => ?_) (fun c27 => ?_)
          · have h := h.1 c27
            refine lv_iconst (v := (0 : Int32)) hx hb dX11_isAlike_109 (by decide) ?_
            exact hret H locs ls 110 _ _ _ _ _ hw h rfl (show 82 ≤ 82 by omega) (show 3370 ≤ 3370 by omega) dX11_isAlike_110
          have h := h.2 c27
          refine lv_aload_n hx hb dX11_isAlike_99 rfl (lv_at hl 2 rfl) ?_
          refine lv_aload hx hb dX11_isAlike_100 (lv_at hl 0 rfl) ?_
          refine lv_iconst (v := (3 : Int32)) hx hb dX11_isAlike_102 (by decide) ?_
          refine M_calli hw (MA.up hw.2.2.1.1) (va_runV (own := "LeastreaderModel") (As := [.ref q16, .int (3 : Int32)]) (rest := []) ⟨hx, hb, hml, hown, ht⟩ (c_X11_isCrowded q16 μ25 H.size n17 f18 (3 : Int32) h) (cwV 2 ht (G_V q_1520 q_1522 q_42 q_56 q_1523) rfl rfl rfl ⟨rfl, hd_109⟩ ⟨Nat.le_of_ble_eq_true rfl, Nat.le_of_ble_eq_true rfl⟩) ⟨MB.blind, M_recv hK hw, MB.pre hK hI hw (va_Pc2 (hw.n (j := 0) rfl) va_P0) (neC (hw.ne (j := 0) rfl) ne0)⟩ rfl rfl hl.1 rfl (lv_room (Nat.le_of_ble_eq_true rfl)) dX11_isAlike_103 ⟨show 82 + 0 ≤ 82 by omega, show 3370 + 0 ≤ 3370 by omega⟩) (fun r29 μ28 H locs h hw => ?_)
          refine lv_if_eq (tgt := 111) hx hb dX11_isAlike_106 (by decide) (fun c30 => ?_) (fun c30 => ?_)
          · have h := h.1 c30
            refine lv_aloadN hx hb dX11_isAlike_111 (lv_at hl 1 rfl) ?_
            exact False.elim h
          have h := h.2 c30
          refine lv_iconst (v := (0 : Int32)) hx hb dX11_isAlike_109 (by decide) ?_
          exact hret H locs ls 110 _ _ _ _ _ hw h rfl (show 82 ≤ 82 by omega) (show 3370 ≤ 3370 by omega) dX11_isAlike_110
        obtain ⟨e10, h⟩ := h
        rw [e10] at hw
        have h := h.2 _ _ rfl
        have hw : MW D (MR ad cI μ5) [eI cI q11 n12 f13] (MA ad s.heap.size) s H locs := hw
        refine lv_astore (lv' := [(4, .ref q11), (0, .ref (ad 0)), (1, .int a1), (2, .int a2), (3, .int a3)]) hx hb dX11_isAlike_79 hl (by decide) rfl (fun ls hl => ?_)
        refine lv_aload_n hx hb dX11_isAlike_81 rfl (lv_at hl 1 rfl) ?_
        refine lv_iload_n hx hb dX11_isAlike_82 rfl (lv_at hl 3 rfl) ?_
        refine lv_iconst (v := (0 : Int32)) hx hb dX11_isAlike_83 (by decide) ?_
        refine M_callA hw (MA.up hw.2.2.1.1) (va_runV (own := "LeastreaderModel") (As := [.int a2, .int (0 : Int32)]) (rest := []) ⟨hx, hb, hml, hown, ht⟩ (c_X11_found μ5 H.size a2 (0 : Int32) h) (cwV 2 ht (G_V q_1448 q_1450 q_36 q_56 q_1451) rfl rfl rfl ⟨rfl, hd_103⟩ ⟨Nat.le_of_ble_eq_true rfl, Nat.le_of_ble_eq_true rfl⟩) ⟨MB.blind, M_recv hK hw, MB.pre hK hI hw va_P0 ne0⟩ rfl rfl hl.1 rfl (lv_room (Nat.le_of_ble_eq_true rfl)) dX11_isAlike_84 ⟨show 41 + 41 ≤ 82 by omega, show 1685 + 1685 ≤ 3370 by omega⟩) (fun μ32 H locs h hw => ?_) (fun q34 n35 f36 μ32 H locs hq34 h hw => ?_)
        · skip
          obtain ⟨e33, h⟩ := h
          rw [e33] at hw
          have h := h.1 rfl
          refine lv_astoreN (lv' := [(5, .null), (4, .ref q11), (0, .ref (ad 0)), (1, .int a1), (2, .int a2), (3, .int a3)]) hx hb dX11_isAlike_87 hl (by decide) rfl (fun ls hl => ?_)
          refine lv_aload_n hx hb dX11_isAlike_89 rfl (lv_at hl 2 rfl) ?_
          refine lv_aload hx hb dX11_isAlike_90 (lv_at hl 1 rfl) ?_
          refine lv_iconst (v := (3 : Int32)) hx hb dX11_isAlike_92 (by decide) ?_
          refine M_calli hw (MA.up hw.2.2.1.1) (va_runV (own := "LeastreaderModel") (As := [.ref q11, .int (3 : Int32)]) (rest := []) ⟨hx, hb, hml, hown, ht⟩ (c_X11_isCrowded q11 μ5 H.size n12 f13 (3 : Int32) h) (cwV 2 ht (G_V q_1520 q_1522 q_42 q_56 q_1523) rfl rfl rfl ⟨rfl, hd_109⟩ ⟨Nat.le_of_ble_eq_true rfl, Nat.le_of_ble_eq_true rfl⟩) ⟨MB.blind, M_recv hK hw, MB.pre hK hI hw (va_Pc2 (hw.n (j := 0) rfl) va_P0) (neC (hw.ne (j := 0) rfl) ne0)⟩ rfl rfl hl.1 rfl (lv_room (Nat.le_of_ble_eq_true rfl)) dX11_isAlike_93 ⟨show 82 + 0 ≤ 82 by omega, show 3370 + 0 ≤ 3370 by omega⟩) (fun r38 μ37 H locs h hw => ?_)
          refine lv_if_ne (tgt := 109) hx hb dX11_isAlike_96 (by decide) (fun c39 => ?_) (fun c39 => ?_)
          · have h := h.1 c39
            refine lv_iconst (v := (0 : Int32)) hx hb dX11_isAlike_109 (by decide) ?_
            exact hret H locs ls 110 _ _ _ _ _ hw h rfl (show 82 ≤ 82 by omega) (show 3370 ≤ 3370 by omega) dX11_isAlike_110
          have h := h.2 c39
          refine lv_aload_n hx hb dX11_isAlike_99 rfl (lv_at hl 2 rfl) ?_
          refine lv_aloadN hx hb dX11_isAlike_100 (lv_at hl 0 rfl) ?_
          refine lv_iconst (v := (3 : Int32)) hx hb dX11_isAlike_102 (by decide) ?_
          refine M_calli hw (MA.up hw.2.2.1.1) (va_runV (own := "LeastreaderModel") (As := [.null, .int (3 : Int32)]) (rest := []) ⟨hx, hb, hml, hown, ht⟩ (c_X11_isCrowded_n μ37 H.size (3 : Int32) h) (cwV 2 ht (G_V q_1520 q_1522 q_42 q_56 q_1523) rfl rfl rfl ⟨rfl, hd_109⟩ ⟨Nat.le_of_ble_eq_true rfl, Nat.le_of_ble_eq_true rfl⟩) ⟨MB.blind, M_recv hK hw, MB.pre hK hI hw va_P0 ne0⟩ rfl rfl hl.1 rfl (lv_room (Nat.le_of_ble_eq_true rfl)) dX11_isAlike_103 ⟨show 82 + 0 ≤ 82 by omega, show 3370 + 0 ≤ 3370 by omega⟩) (fun r41 μ40 H locs h hw => ?_)
          refine lv_if_eq (tgt := 111) hx hb dX11_isAlike_106 (by decide) (fun c42 => ?_) (fun c42 => ?_)
          · have h := h.1 c42
            refine lv_aload hx hb dX11_isAlike_111 (lv_at hl 1 rfl) ?_
            refine n_alenI hx hb hK (hw.n (j := 0) rfl) dX11_isAlike_113 ?_
            refine lv_aloadN hx hb dX11_isAlike_114 (lv_at hl 0 rfl) ?_
            exact False.elim h
          have h := h.2 c42
          refine lv_iconst (v := (0 : Int32)) hx hb dX11_isAlike_109 (by decide) ?_
          exact hret H locs ls 110 _ _ _ _ _ hw h rfl (show 82 ≤ 82 by omega) (show 3370 ≤ 3370 by omega) dX11_isAlike_110
        obtain ⟨e33, h⟩ := h
        rw [e33] at hw
        have h := h.2 _ _ rfl
        have hw : MW D (MR ad cI μ5) [eI cI q11 n12 f13, eI cI q34 n35 f36] (MA ad s.heap.size) s H locs := hw
        refine lv_astore (lv' := [(5, .ref q34), (4, .ref q11), (0, .ref (ad 0)), (1, .int a1), (2, .int a2), (3, .int a3)]) hx hb dX11_isAlike_87 hl (by decide) rfl (fun ls hl => ?_)
        refine lv_aload_n hx hb dX11_isAlike_89 rfl (lv_at hl 2 rfl) ?_
        refine lv_aload hx hb dX11_isAlike_90 (lv_at hl 1 rfl) ?_
        refine lv_iconst (v := (3 : Int32)) hx hb dX11_isAlike_92 (by decide) ?_
        refine M_calli hw (MA.up hw.2.2.1.1) (va_runV (own := "LeastreaderModel") (As := [.ref q11, .int (3 : Int32)]) (rest := []) ⟨hx, hb, hml, hown, ht⟩ (c_X11_isCrowded q11 μ5 H.size n12 f13 (3 : Int32) h) (cwV 2 ht (G_V q_1520 q_1522 q_42 q_56 q_1523) rfl rfl rfl ⟨rfl, hd_109⟩ ⟨Nat.le_of_ble_eq_true rfl, Nat.le_of_ble_eq_true rfl⟩) ⟨MB.blind, M_recv hK hw, MB.pre hK hI hw (va_Pc2 (hw.n (j := 0) rfl) va_P0) (neC (hw.ne (j := 0) rfl) ne0)⟩ rfl rfl hl.1 rfl (lv_room (Nat.le_of_ble_eq_true rfl)) dX11_isAlike_93 ⟨show 82 + 0 ≤ 82 by omega, show 3370 + 0 ≤ 3370 by omega⟩) (fun r44 μ43 H locs h hw => ?_)
        refine lv_if_ne (tgt := 109) hx hb dX11_isAlike_96 (by decide) (fun c45 => ?_) (fun c45 => ?_)
        · have h := h.1 c45
          refine lv_iconst (v := (0 : Int32)) hx hb dX11_isAlike_109 (by decide) ?_
          exact hret H locs ls 110 _ _ _ _ _ hw h rfl (show 82 ≤ 82 by omega) (show 3370 ≤ 3370 by omega) dX11_isAlike_110
        have h := h.2 c45
        refine lv_aload_n hx hb dX11_isAlike_99 rfl (lv_at hl 2 rfl) ?_
        refine lv_aload hx hb dX11_isAlike_100 (lv_at hl 0 rfl) ?_
        refine lv_iconst (v := (3 : Int32)) hx hb dX11_isAlike_102 (by decide) ?_
        refine M_calli hw (MA.up hw.2.2.1.1) (va_runV (own := "LeastreaderModel") (As := [.ref q34, .int (3 : Int32)]) (rest := []) ⟨hx, hb, hml, hown, ht⟩ (c_X11_isCrowded q34 μ43 H.size n35 f36 (3 : Int32) h) (cwV 2 ht (G_V q_1520 q_1522 q_42 q_56 q_1523) rfl rfl rfl ⟨rfl, hd_109⟩ ⟨Nat.le_of_ble_eq_true rfl, Nat.le_of_ble_eq_true rfl⟩) ⟨MB.blind, M_recv hK hw, MB.pre hK hI hw (va_Pc2 (hw.n (j := 1) rfl) va_P0) (neC (hw.ne (j := 1) rfl) ne0)⟩ rfl rfl hl.1 rfl (lv_room (Nat.le_of_ble_eq_true rfl)) dX11_isAlike_103 ⟨show 82 + 0 ≤ 82 by omega, show 3370 + 0 ≤ 3370 by omega⟩) (fun r47 μ46 H locs h hw => ?_)
        refine lv_if_eq (tgt := 111) hx hb dX11_isAlike_106 (by decide) (fun c48 => ?_) (fun c48 => ?_)
        · have h := h.1 c48
          refine lv_aload hx hb dX11_isAlike_111 (lv_at hl 1 rfl) ?_
          refine n_alenI hx hb hK (hw.n (j := 0) rfl) dX11_isAlike_113 ?_
          refine lv_aload hx hb dX11_isAlike_114 (lv_at hl 0 rfl) ?_
          refine n_alenI hx hb hK (hw.n (j := 1) rfl) dX11_isAlike_116 ?_
          have h := h (fun (j50 : Int32) => ∀ (H : Heap) (locs : List Loc) (ls : Array Slot), MW D (MR ad cI μ46) [eI cI q11 n12 f13, eI cI q34 n35 f36] (MA ad s.heap.size) s H locs → lv_has ls 8 [(5, .ref q34), (4, .ref q11)] → W p l e (RA 4 82 3370) s m #[.ref (ad 0), .int a1, .int a2, .int a3] below meth c H locs 82 3370 Z (F0 m 125 ls [.int j50])) (fun j50 h H locs ls hw hl => by
            refine lv_istore (lv' := [(6, .int j50), (5, .ref q34), (4, .ref q11)]) hx hb dX11_isAlike_125 hl (by decide) rfl (fun ls hl => ?_)
            refine lv_iconst (v := (0 : Int32)) hx hb dX11_isAlike_127 (by decide) ?_
            refine lv_istore (lv' := [(7, .int (0 : Int32)), (6, .int j50), (5, .ref q34), (4, .ref q11)]) hx hb dX11_isAlike_128 hl (by decide) rfl (fun ls hl => ?_)
            obtain ⟨n61, h⟩ := h
            have L50 : ∀ (n : Nat), ∀ (v52 : Int32) (v53 : Int32), ∀ (H : Heap) (locs : List Loc) (ls : Array Slot), MW D (MR ad cI μ46) [eI cI q11 n12 f13, eI cI q34 n35 f36] (MA ad s.heap.size) s H locs → lv_has ls 8 [(7, .int v52), (6, .int v53), (5, .ref q34), (4, .ref q11)] → wpl_X11_isAlike_130 μ46 f13 n12 f36 n35 Q n v52 v53 → W p l e (RA 4 82 3370) s m #[.ref (ad 0), .int a1, .int a2, .int a3] below meth c H locs 82 3370 Z (F0 m 130 ls []) := by
              intro n
              induction n with
              | zero => intro v52 v53 H locs ls hw hl h; exact False.elim h
              | succ n ih50 =>
                intro v52 v53 H locs ls hw hl h
                change (v53 = 0 → (isB v53 ∧ (Q v53 μ46))) ∧ (¬ v53 = 0 → (((nI n12) ≤ v52 → (isB v53 ∧ (Q v53 μ46))) ∧ (¬ (nI n12) ≤ v52 → (vp_in v52 n12 ∧ (vp_in v52 n35 ∧ ((¬ (f13 v52.toNatClampNeg) = (f36 v52.toNatClampNeg) → (wpl_X11_isAlike_130 μ46 f13 n12 f36 n35 Q n (v52 + (1 : Int32)) (0 : Int32))) ∧ ((f13 v52.toNatClampNeg) = (f36 v52.toNatClampNeg) → (wpl_X11_isAlike_130 μ46 f13 n12 f36 n35 Q n (v52 + (1 : Int32)) (1 : Int32))))))))) at h
                refine lv_iload hx hb dX11_isAlike_130 (lv_at hl 1 rfl) ?_
                refine lv_if_eq (tgt := 169) hx hb dX11_isAlike_132 (by decide) (fun c54 => ?_) (fun c54 => ?_)
                · have h := h.1 c54
                  refine lv_iload hx hb dX11_isAlike_169 (lv_at hl 1 rfl) ?_
                  obtain ⟨z55, h⟩ := h
                  exact hret H locs ls 171 _ _ _ _ _ hw h (isB_n z55) (show 82 ≤ 82 by omega) (show 3370 ≤ 3370 by omega) dX11_isAlike_171
                have h := h.2 c54
                refine lv_iload hx hb dX11_isAlike_135 (lv_at hl 0 rfl) ?_
                refine lv_aload hx hb dX11_isAlike_137 (lv_at hl 3 rfl) ?_
                refine n_alenI hx hb hK (hw.n (j := 0) rfl) dX11_isAlike_139 ?_
                refine lv_icmp_ge (tgt := 169) hx hb dX11_isAlike_140 (by decide) (fun c56 => ?_) (fun c56 => ?_)
                · have h := h.1 c56
                  refine lv_iload hx hb dX11_isAlike_169 (lv_at hl 1 rfl) ?_
                  obtain ⟨z57, h⟩ := h
                  exact hret H locs ls 171 _ _ _ _ _ hw h (isB_n z57) (show 82 ≤ 82 by omega) (show 3370 ≤ 3370 by omega) dX11_isAlike_171
                have h := h.2 c56
                refine lv_aload hx hb dX11_isAlike_143 (lv_at hl 3 rfl) ?_
                refine lv_iload hx hb dX11_isAlike_145 (lv_at hl 0 rfl) ?_
                obtain ⟨z58, h⟩ := h
                refine n_iald hx hb hK (hw.n (j := 0) rfl) z58 dX11_isAlike_147 ?_
                refine lv_aload hx hb dX11_isAlike_148 (lv_at hl 2 rfl) ?_
                refine lv_iload hx hb dX11_isAlike_150 (lv_at hl 0 rfl) ?_
                obtain ⟨z59, h⟩ := h
                refine n_iald hx hb hK (hw.n (j := 1) rfl) z59 dX11_isAlike_152 ?_
                refine lv_icmp_ne (tgt := 160) hx hb dX11_isAlike_153 (by decide) (fun c60 => ?_) (fun c60 => ?_)
                · have h := h.1 c60
                  refine lv_iconst (v := (0 : Int32)) hx hb dX11_isAlike_160 (by decide) ?_
                  refine lv_istore (lv' := [(6, .int (0 : Int32)), (7, .int v52), (5, .ref q34), (4, .ref q11)]) hx hb dX11_isAlike_161 hl (by decide) rfl (fun ls hl => ?_)
                  refine lv_iinc (v := (v52 + (1 : Int32))) (lv' := [(7, .int (v52 + (1 : Int32))), (6, .int (0 : Int32)), (5, .ref q34), (4, .ref q11)]) hx hb dX11_isAlike_163 hl (k := 1) rfl rfl (by decide) rfl (fun ls hl => ?_)
                  refine lv_goto (tgt := 130) hx hb dX11_isAlike_166 (by decide) ?_
                  exact ih50 (v52 + (1 : Int32)) (0 : Int32) H locs ls hw (lv_sub hl [0, 1, 2, 3] rfl) h
                have h := h.2 c60
                refine lv_iconst (v := (1 : Int32)) hx hb dX11_isAlike_156 (by decide) ?_
                refine lv_goto (tgt := 161) hx hb dX11_isAlike_157 (by decide) ?_
                refine lv_istore (lv' := [(6, .int (1 : Int32)), (7, .int v52), (5, .ref q34), (4, .ref q11)]) hx hb dX11_isAlike_161 hl (by decide) rfl (fun ls hl => ?_)
                refine lv_iinc (v := (v52 + (1 : Int32))) (lv' := [(7, .int (v52 + (1 : Int32))), (6, .int (1 : Int32)), (5, .ref q34), (4, .ref q11)]) hx hb dX11_isAlike_163 hl (k := 1) rfl rfl (by decide) rfl (fun ls hl => ?_)
                refine lv_goto (tgt := 130) hx hb dX11_isAlike_166 (by decide) ?_
                exact ih50 (v52 + (1 : Int32)) (1 : Int32) H locs ls hw (lv_sub hl [0, 1, 2, 3] rfl) h
            exact L50 n61 (0 : Int32) j50 H locs ls hw (lv_sub hl [0, 1, 2, 3] rfl) h)
          refine lv_icmp_ne (tgt := 124) hx hb dX11_isAlike_117 (by decide) (fun c62 => ?_) (fun c62 => ?_)
          · have h := h.1 c62
            refine lv_iconst (v := (0 : Int32)) hx hb dX11_isAlike_124 (by decide) ?_
            exact h H locs ls hw (lv_sub hl [0, 1] rfl)
          have h := h.2 c62
          refine lv_iconst (v := (1 : Int32)) hx hb dX11_isAlike_120 (by decide) ?_
          refine lv_goto (tgt := 125) hx hb dX11_isAlike_121 (by decide) ?_
          exact h H locs ls hw (lv_sub hl [0, 1] rfl)
        have h := h.2 c48
        refine lv_iconst (v := (0 : Int32)) hx hb dX11_isAlike_109 (by decide) ?_
        exact hret H locs ls 110 _ _ _ _ _ hw h rfl (show 82 ≤ 82 by omega) (show 3370 ≤ 3370 by omega) dX11_isAlike_110
      have h := h.2 c8
      refine lv_aload_n hx hb dX11_isAlike_38 rfl (lv_at hl 0 rfl) ?_
      refine lv_iload_n hx hb dX11_isAlike_39 rfl (lv_at hl 1 rfl) ?_
      refine lv_iload_n hx hb dX11_isAlike_40 rfl (lv_at hl 2 rfl) ?_
      refine M_callA hw (MA.up hw.2.2.1.1) (va_runV (own := "LeastreaderModel") (As := [.int a1, .int a2]) (rest := []) ⟨hx, hb, hml, hown, ht⟩ (c_X11_pairsOf μ5 H.size a1 a2 h) (cwV 2 ht (G_V q_1563 q_1565 q_43 q_56 q_1566) rfl rfl rfl ⟨rfl, hd_112⟩ ⟨Nat.le_of_ble_eq_true rfl, Nat.le_of_ble_eq_true rfl⟩) ⟨MB.blind, M_recv hK hw, MB.pre hK hI hw va_P0 ne0⟩ rfl rfl hl.1 rfl (lv_room (Nat.le_of_ble_eq_true rfl)) dX11_isAlike_41 ⟨show 0 + 9 ≤ 82 by omega, show 0 + 1222 ≤ 3370 by omega⟩) (fun μ65 H locs h hw => ?_) (fun q67 n68 f69 μ65 H locs hq67 h hw => ?_)
      · skip
        obtain ⟨e66, h⟩ := h
        rw [e66] at hw
        have h := h.1 rfl
        refine lv_astoreN (lv' := [(4, .null), (0, .ref (ad 0)), (1, .int a1), (2, .int a2), (3, .int a3)]) hx hb dX11_isAlike_44 hl (by decide) rfl (fun ls hl => ?_)
        refine lv_aload_n hx hb dX11_isAlike_46 rfl (lv_at hl 1 rfl) ?_
        refine lv_aloadN hx hb dX11_isAlike_47 (lv_at hl 0 rfl) ?_
        refine lv_iconst (v := (3 : Int32)) hx hb dX11_isAlike_49 (by decide) ?_
        refine M_calli hw (MA.up hw.2.2.1.1) (va_runV (own := "LeastreaderModel") (As := [.null, .int (3 : Int32)]) (rest := []) ⟨hx, hb, hml, hown, ht⟩ (c_X11_isCrowded_n μ5 H.size (3 : Int32) h) (cwV 2 ht (G_V q_1520 q_1522 q_42 q_56 q_1523) rfl rfl rfl ⟨rfl, hd_109⟩ ⟨Nat.le_of_ble_eq_true rfl, Nat.le_of_ble_eq_true rfl⟩) ⟨MB.blind, M_recv hK hw, MB.pre hK hI hw va_P0 ne0⟩ rfl rfl hl.1 rfl (lv_room (Nat.le_of_ble_eq_true rfl)) dX11_isAlike_50 ⟨show 9 + 0 ≤ 82 by omega, show 1222 + 0 ≤ 3370 by omega⟩) (fun r71 μ70 H locs h hw => ?_)
        refine lv_if_ne (tgt := 71) hx hb dX11_isAlike_53 (by decide) (fun c72 => ?_) (fun c72 => ?_)
        · have h := h.1 c72
          refine lv_iconst (v := (0 : Int32)) hx hb dX11_isAlike_71 (by decide) ?_
          exact hret H locs ls 72 _ _ _ _ _ hw h rfl (show 9 ≤ 82 by omega) (show 1222 ≤ 3370 by omega) dX11_isAlike_72
        have h := h.2 c72
        refine lv_aload_n hx hb dX11_isAlike_56 rfl (lv_at hl 1 rfl) ?_
        refine lv_iload_n hx hb dX11_isAlike_57 rfl (lv_at hl 2 rfl) ?_
        refine lv_iload_n hx hb dX11_isAlike_58 rfl (lv_at hl 3 rfl) ?_
        refine lv_aloadN hx hb dX11_isAlike_59 (lv_at hl 0 rfl) ?_
        exact False.elim h
      obtain ⟨e66, h⟩ := h
      rw [e66] at hw
      have h := h.2 _ _ rfl
      have hw : MW D (MR ad cI μ5) [eI cI q67 n68 f69] (MA ad s.heap.size) s H locs := hw
      refine lv_astore (lv' := [(4, .ref q67), (0, .ref (ad 0)), (1, .int a1), (2, .int a2), (3, .int a3)]) hx hb dX11_isAlike_44 hl (by decide) rfl (fun ls hl => ?_)
      refine lv_aload_n hx hb dX11_isAlike_46 rfl (lv_at hl 1 rfl) ?_
      refine lv_aload hx hb dX11_isAlike_47 (lv_at hl 0 rfl) ?_
      refine lv_iconst (v := (3 : Int32)) hx hb dX11_isAlike_49 (by decide) ?_
      refine M_calli hw (MA.up hw.2.2.1.1) (va_runV (own := "LeastreaderModel") (As := [.ref q67, .int (3 : Int32)]) (rest := []) ⟨hx, hb, hml, hown, ht⟩ (c_X11_isCrowded q67 μ5 H.size n68 f69 (3 : Int32) h) (cwV 2 ht (G_V q_1520 q_1522 q_42 q_56 q_1523) rfl rfl rfl ⟨rfl, hd_109⟩ ⟨Nat.le_of_ble_eq_true rfl, Nat.le_of_ble_eq_true rfl⟩) ⟨MB.blind, M_recv hK hw, MB.pre hK hI hw (va_Pc2 (hw.n (j := 0) rfl) va_P0) (neC (hw.ne (j := 0) rfl) ne0)⟩ rfl rfl hl.1 rfl (lv_room (Nat.le_of_ble_eq_true rfl)) dX11_isAlike_50 ⟨show 9 + 0 ≤ 82 by omega, show 1222 + 0 ≤ 3370 by omega⟩) (fun r74 μ73 H locs h hw => ?_)
      refine lv_if_ne (tgt := 71) hx hb dX11_isAlike_53 (by decide) (fun c75 => ?_) (fun c75 => ?_)
      · have h := h.1 c75
        refine lv_iconst (v := (0 : Int32)) hx hb dX11_isAlike_71 (by decide) ?_
        exact hret H locs ls 72 _ _ _ _ _ hw h rfl (show 9 ≤ 82 by omega) (show 1222 ≤ 3370 by omega) dX11_isAlike_72
      have h := h.2 c75
      refine lv_aload_n hx hb dX11_isAlike_56 rfl (lv_at hl 1 rfl) ?_
      refine lv_iload_n hx hb dX11_isAlike_57 rfl (lv_at hl 2 rfl) ?_
      refine lv_iload_n hx hb dX11_isAlike_58 rfl (lv_at hl 3 rfl) ?_
      refine lv_aload hx hb dX11_isAlike_59 (lv_at hl 0 rfl) ?_
      refine M_calli hw (MA.up hw.2.2.1.1) (va_runV (own := "LeastreaderModel") (As := [.int a1, .int a2, .ref q67]) (rest := []) ⟨hx, hb, hml, hown, ht⟩ (c_X11_isApart q67 μ73 H.size a1 a2 n68 f69 h) (cwV 3 ht (G_V q_1567 q_1569 q_44 q_56 q_1570) rfl rfl rfl ⟨rfl, hd_113⟩ ⟨Nat.le_of_ble_eq_true rfl, Nat.le_of_ble_eq_true rfl⟩) ⟨MB.blind, M_recv hK hw, MB.pre hK hI hw (va_Pc2 (hw.n (j := 0) rfl) va_P0) (neC (hw.ne (j := 0) rfl) ne0)⟩ rfl rfl hl.1 rfl (lv_room (Nat.le_of_ble_eq_true rfl)) dX11_isAlike_61 ⟨show 9 + 8 ≤ 82 by omega, show 1222 + 618 ≤ 3370 by omega⟩) (fun r78 μ76 H locs h hw => ?_)
      obtain ⟨e77, h⟩ := h
      rw [e77] at hw
      refine lv_if_ne (tgt := 71) hx hb dX11_isAlike_64 (by decide) (fun c79 => ?_) (fun c79 => ?_)
      · have h := h.1 c79
        refine lv_iconst (v := (0 : Int32)) hx hb dX11_isAlike_71 (by decide) ?_
        exact hret H locs ls 72 _ _ _ _ _ hw h rfl (show 17 ≤ 82 by omega) (show 1840 ≤ 3370 by omega) dX11_isAlike_72
      have h := h.2 c79
      refine lv_iconst (v := (1 : Int32)) hx hb dX11_isAlike_67 (by decide) ?_
      refine lv_goto (tgt := 72) hx hb dX11_isAlike_68 (by decide) ?_
      exact hret H locs ls 72 _ _ _ _ _ hw h rfl (show 17 ≤ 82 by omega) (show 1840 ≤ 3370 by omega) dX11_isAlike_72
    have h := h.2 c7
    refine lv_iconst (v := (0 : Int32)) hx hb dX11_isAlike_32 (by decide) ?_
    exact hret H locs ls 33 _ _ _ _ _ hw h rfl (show 0 ≤ 82 by omega) (show 0 ≤ 3370 by omega) dX11_isAlike_33)
  refine lv_if_eq (tgt := 19) hx hb dX11_isAlike_5 (by decide) (fun c81 => ?_) (fun c81 => ?_)
  · have h := h.1 c81
    refine lv_iconst (v := (0 : Int32)) hx hb dX11_isAlike_19 (by decide) ?_
    exact h H locs ls hw (lv_sub hl [0, 1, 2, 3] rfl)
  have h := h.2 c81
  refine lv_iload_n hx hb dX11_isAlike_8 rfl (lv_at hl 2 rfl) ?_
  refine P_calli (va_runS (own := "LeastreaderModel") (As := [.int a2]) (rest := [.ref (ad 0)]) ⟨hx, hb, hml, hown, ht⟩ (c_X11_isOne a2 h) (va_cwS 1 ht (G_S q_1342 q_1343 q_56 q_1344) rfl rfl rfl hd_91 ⟨Nat.le_of_ble_eq_true rfl, Nat.le_of_ble_eq_true rfl⟩) ⟨PM_blind, PM_pre⟩ rfl rfl hl.1 rfl (lv_room (Nat.le_of_ble_eq_true rfl)) dX11_isAlike_9 ⟨show 0 + 0 ≤ 82 by omega, show 0 + 0 ≤ 3370 by omega⟩) (fun r82 h => ?_)
  refine lv_if_eq (tgt := 19) hx hb dX11_isAlike_12 (by decide) (fun c83 => ?_) (fun c83 => ?_)
  · have h := h.1 c83
    refine lv_iconst (v := (0 : Int32)) hx hb dX11_isAlike_19 (by decide) ?_
    exact h H locs ls hw (lv_sub hl [0, 1, 2, 3] rfl)
  have h := h.2 c83
  refine lv_iconst (v := (1 : Int32)) hx hb dX11_isAlike_15 (by decide) ?_
  refine lv_goto (tgt := 20) hx hb dX11_isAlike_16 (by decide) ?_
  exact h H locs ls hw (lv_sub hl [0, 1, 2, 3] rfl)
def wp_X11_pairs (μ : TMem) (a1 : Int32) (a2 : Int32) (Q : Int32 → TMem → Prop) : Prop :=
  wp_X11_isOne a1 (fun (r1 : Int32) => ∀ J2 : Int32 → Prop, (∀ (j3 : Int32), (wp_X11_isThrown μ j3 (1 : Int32) (fun (r5 : Int32) (μ4 : TMem) => (r5 = 0 → (wp_X11_pairsOf μ4 a1 a2 (fun (r19 : Option AI) => (r19 = none → (wp_X11_isCrowded_n μ4 (2 : Int32) (fun (r13 : Int32) (μ12 : TMem) => (r13 = 0 → (False)) ∧ (¬ r13 = 0 → (Q (0 : Int32) μ12))))) ∧ (∀ (n10 : Nat) (f11 : Nat → Int32), r19 = some (n10, f11) → (wp_X11_isCrowded μ4 n10 f11 (2 : Int32) (fun (r16 : Int32) (μ15 : TMem) => (r16 = 0 → (vp_in (0 : Int32) n10 ∧ (Q (f11 (0 : Int32).toNatClampNeg) μ15))) ∧ (¬ r16 = 0 → (Q (0 : Int32) μ15)))))))) ∧ (¬ r5 = 0 → (Q (0 : Int32) μ4)))) → J2 j3) → ((r1 = 0 → (J2 (0 : Int32))) ∧ (¬ r1 = 0 → (wp_X11_isOne a2 (fun (r21 : Int32) => (r21 = 0 → (J2 (0 : Int32))) ∧ (¬ r21 = 0 → (J2 (1 : Int32))))))))
set_option maxHeartbeats 4000000 in
set_option maxRecDepth 100000 in
theorem c_X11_pairs {l : Launch} {D : va_G} {ad : Nat → Nat} {cI cL : ClassId}  (μ : TMem) (sz : Nat) (a1 : Int32) (a2 : Int32)  {Q : Int32 → TMem → Prop} (h : wp_X11_pairs μ a1 a2 Q) : MMi l yX11_pairs (.code yX11_pairs cX11_pairs 4 (Option.some Jvm.ClassFile.FieldType.int)) 4 9 1222 [.ref (ad 0), .int a1, .int a2] D ad cI cL sz μ [] Q := by
  refine M_meti (by decide +kernel) (Nat.le_of_ble_eq_true rfl) ?_
  intro p e s m below meth c Z ls hx hb hml hown ht hK hP0 hI hne hw hret hl
  have hl : lv_has ls 4 [(0, .ref (ad 0)), (1, .int a1), (2, .int a2)] := hl
  suffices hh : ∀ (H : Heap) (locs : List Loc), MW D (MR ad cI μ) [] (MA ad s.heap.size) s H locs → W p l e (RA 4 9 1222) s m #[.ref (ad 0), .int a1, .int a2] below meth c H locs 0 0 Z (F0 m 0 ls []) from hh _ _ hw
  intro H locs hw
  change wp_X11_isOne a1 (fun (r1 : Int32) => ∀ J2 : Int32 → Prop, (∀ (j3 : Int32), (wp_X11_isThrown μ j3 (1 : Int32) (fun (r5 : Int32) (μ4 : TMem) => (r5 = 0 → (wp_X11_pairsOf μ4 a1 a2 (fun (r19 : Option AI) => (r19 = none → (wp_X11_isCrowded_n μ4 (2 : Int32) (fun (r13 : Int32) (μ12 : TMem) => (r13 = 0 → (False)) ∧ (¬ r13 = 0 → (Q (0 : Int32) μ12))))) ∧ (∀ (n10 : Nat) (f11 : Nat → Int32), r19 = some (n10, f11) → (wp_X11_isCrowded μ4 n10 f11 (2 : Int32) (fun (r16 : Int32) (μ15 : TMem) => (r16 = 0 → (vp_in (0 : Int32) n10 ∧ (Q (f11 (0 : Int32).toNatClampNeg) μ15))) ∧ (¬ r16 = 0 → (Q (0 : Int32) μ15)))))))) ∧ (¬ r5 = 0 → (Q (0 : Int32) μ4)))) → J2 j3) → ((r1 = 0 → (J2 (0 : Int32))) ∧ (¬ r1 = 0 → (wp_X11_isOne a2 (fun (r21 : Int32) => (r21 = 0 → (J2 (0 : Int32))) ∧ (¬ r21 = 0 → (J2 (1 : Int32)))))))) at h
  refine lv_aload_n hx hb dX11_pairs_0 rfl (lv_at hl 0 rfl) ?_
  refine lv_iload_n hx hb dX11_pairs_1 rfl (lv_at hl 1 rfl) ?_
  refine P_calli (va_runS (own := "LeastreaderModel") (As := [.int a1]) (rest := [.ref (ad 0)]) ⟨hx, hb, hml, hown, ht⟩ (c_X11_isOne a1 h) (va_cwS 1 ht (G_S q_1342 q_1343 q_56 q_1344) rfl rfl rfl hd_91 ⟨Nat.le_of_ble_eq_true rfl, Nat.le_of_ble_eq_true rfl⟩) ⟨PM_blind, PM_pre⟩ rfl rfl hl.1 rfl (lv_room (Nat.le_of_ble_eq_true rfl)) dX11_pairs_2 ⟨show 0 + 0 ≤ 9 by omega, show 0 + 0 ≤ 1222 by omega⟩) (fun r1 h => ?_)
  have h := h (fun (j3 : Int32) => ∀ (H : Heap) (locs : List Loc) (ls : Array Slot), MW D (MR ad cI μ) [] (MA ad s.heap.size) s H locs → lv_has ls 4 [(0, .ref (ad 0)), (1, .int a1), (2, .int a2)] → W p l e (RA 4 9 1222) s m #[.ref (ad 0), .int a1, .int a2] below meth c H locs 0 0 Z (F0 m 20 ls [.int j3, .ref (ad 0)])) (fun j3 h H locs ls hw hl => by
    refine lv_iconst (v := (1 : Int32)) hx hb dX11_pairs_20 (by decide) ?_
    refine M_calli hw (MA.up hw.2.2.1.1) (va_runV (own := "LeastreaderModel") (As := [.int j3, .int (1 : Int32)]) (rest := []) ⟨hx, hb, hml, hown, ht⟩ (c_X11_isThrown μ H.size j3 (1 : Int32) h) (cwV 2 ht (G_V q_1348 q_1350 q_26 q_56 q_1351) rfl rfl rfl ⟨rfl, hd_92⟩ ⟨Nat.le_of_ble_eq_true rfl, Nat.le_of_ble_eq_true rfl⟩) ⟨MB.blind, M_recv hK hw, MB.pre hK hI hw va_P0 ne0⟩ rfl rfl hl.1 rfl (lv_room (Nat.le_of_ble_eq_true rfl)) dX11_pairs_21 ⟨show 0 + 0 ≤ 9 by omega, show 0 + 0 ≤ 1222 by omega⟩) (fun r5 μ4 H locs h hw => ?_)
    refine lv_if_eq (tgt := 29) hx hb dX11_pairs_24 (by decide) (fun c6 => ?_) (fun c6 => ?_)
    · have h := h.1 c6
      refine lv_aload_n hx hb dX11_pairs_29 rfl (lv_at hl 0 rfl) ?_
      refine lv_iload_n hx hb dX11_pairs_30 rfl (lv_at hl 1 rfl) ?_
      refine lv_iload_n hx hb dX11_pairs_31 rfl (lv_at hl 2 rfl) ?_
      refine M_callA hw (MA.up hw.2.2.1.1) (va_runV (own := "LeastreaderModel") (As := [.int a1, .int a2]) (rest := []) ⟨hx, hb, hml, hown, ht⟩ (c_X11_pairsOf μ4 H.size a1 a2 h) (cwV 2 ht (G_V q_1563 q_1565 q_43 q_56 q_1566) rfl rfl rfl ⟨rfl, hd_112⟩ ⟨Nat.le_of_ble_eq_true rfl, Nat.le_of_ble_eq_true rfl⟩) ⟨MB.blind, M_recv hK hw, MB.pre hK hI hw va_P0 ne0⟩ rfl rfl hl.1 rfl (lv_room (Nat.le_of_ble_eq_true rfl)) dX11_pairs_32 ⟨show 0 + 9 ≤ 9 by omega, show 0 + 1222 ≤ 1222 by omega⟩) (fun μ7 H locs h hw => ?_) (fun q9 n10 f11 μ7 H locs hq9 h hw => ?_)
      · skip
        obtain ⟨e8, h⟩ := h
        rw [e8] at hw
        have h := h.1 rfl
        refine lv_astore_nN (lv' := [(3, .null), (0, .ref (ad 0)), (1, .int a1), (2, .int a2)]) hx hb dX11_pairs_35 rfl hl (by decide) rfl (fun ls hl => ?_)
        refine lv_aload_n hx hb dX11_pairs_36 rfl (lv_at hl 1 rfl) ?_
        refine lv_aload_nN hx hb dX11_pairs_37 rfl (lv_at hl 0 rfl) ?_
        refine lv_iconst (v := (2 : Int32)) hx hb dX11_pairs_38 (by decide) ?_
        refine M_calli hw (MA.up hw.2.2.1.1) (va_runV (own := "LeastreaderModel") (As := [.null, .int (2 : Int32)]) (rest := []) ⟨hx, hb, hml, hown, ht⟩ (c_X11_isCrowded_n μ4 H.size (2 : Int32) h) (cwV 2 ht (G_V q_1520 q_1522 q_42 q_56 q_1523) rfl rfl rfl ⟨rfl, hd_109⟩ ⟨Nat.le_of_ble_eq_true rfl, Nat.le_of_ble_eq_true rfl⟩) ⟨MB.blind, M_recv hK hw, MB.pre hK hI hw va_P0 ne0⟩ rfl rfl hl.1 rfl (lv_room (Nat.le_of_ble_eq_true rfl)) dX11_pairs_39 ⟨show 9 + 0 ≤ 9 by omega, show 1222 + 0 ≤ 1222 by omega⟩) (fun r13 μ12 H locs h hw => ?_)
        refine lv_if_eq (tgt := 49) hx hb dX11_pairs_42 (by decide) (fun c14 => ?_) (fun c14 => ?_)
        · have h := h.1 c14
          refine lv_aload_nN hx hb dX11_pairs_49 rfl (lv_at hl 0 rfl) ?_
          refine lv_iconst (v := (0 : Int32)) hx hb dX11_pairs_50 (by decide) ?_
          exact False.elim h
        have h := h.2 c14
        refine lv_iconst (v := (0 : Int32)) hx hb dX11_pairs_45 (by decide) ?_
        refine lv_goto (tgt := 52) hx hb dX11_pairs_46 (by decide) ?_
        exact hret H locs ls 52 _ _ _ _ _ hw h rfl (show 9 ≤ 9 by omega) (show 1222 ≤ 1222 by omega) dX11_pairs_52
      obtain ⟨e8, h⟩ := h
      rw [e8] at hw
      have h := h.2 _ _ rfl
      have hw : MW D (MR ad cI μ4) [eI cI q9 n10 f11] (MA ad s.heap.size) s H locs := hw
      refine lv_astore_n (lv' := [(3, .ref q9), (0, .ref (ad 0)), (1, .int a1), (2, .int a2)]) hx hb dX11_pairs_35 rfl hl (by decide) rfl (fun ls hl => ?_)
      refine lv_aload_n hx hb dX11_pairs_36 rfl (lv_at hl 1 rfl) ?_
      refine lv_aload_n hx hb dX11_pairs_37 rfl (lv_at hl 0 rfl) ?_
      refine lv_iconst (v := (2 : Int32)) hx hb dX11_pairs_38 (by decide) ?_
      refine M_calli hw (MA.up hw.2.2.1.1) (va_runV (own := "LeastreaderModel") (As := [.ref q9, .int (2 : Int32)]) (rest := []) ⟨hx, hb, hml, hown, ht⟩ (c_X11_isCrowded q9 μ4 H.size n10 f11 (2 : Int32) h) (cwV 2 ht (G_V q_1520 q_1522 q_42 q_56 q_1523) rfl rfl rfl ⟨rfl, hd_109⟩ ⟨Nat.le_of_ble_eq_true rfl, Nat.le_of_ble_eq_true rfl⟩) ⟨MB.blind, M_recv hK hw, MB.pre hK hI hw (va_Pc2 (hw.n (j := 0) rfl) va_P0) (neC (hw.ne (j := 0) rfl) ne0)⟩ rfl rfl hl.1 rfl (lv_room (Nat.le_of_ble_eq_true rfl)) dX11_pairs_39 ⟨show 9 + 0 ≤ 9 by omega, show 1222 + 0 ≤ 1222 by omega⟩) (fun r16 μ15 H locs h hw => ?_)
      refine lv_if_eq (tgt := 49) hx hb dX11_pairs_42 (by decide) (fun c17 => ?_) (fun c17 => ?_)
      · have h := h.1 c17
        refine lv_aload_n hx hb dX11_pairs_49 rfl (lv_at hl 0 rfl) ?_
        refine lv_iconst (v := (0 : Int32)) hx hb dX11_pairs_50 (by decide) ?_
        obtain ⟨z18, h⟩ := h
        refine n_iald hx hb hK (hw.n (j := 0) rfl) z18 dX11_pairs_51 ?_
        exact hret H locs ls 52 _ _ _ _ _ hw h rfl (show 9 ≤ 9 by omega) (show 1222 ≤ 1222 by omega) dX11_pairs_52
      have h := h.2 c17
      refine lv_iconst (v := (0 : Int32)) hx hb dX11_pairs_45 (by decide) ?_
      refine lv_goto (tgt := 52) hx hb dX11_pairs_46 (by decide) ?_
      exact hret H locs ls 52 _ _ _ _ _ hw h rfl (show 9 ≤ 9 by omega) (show 1222 ≤ 1222 by omega) dX11_pairs_52
    have h := h.2 c6
    refine lv_iconst (v := (0 : Int32)) hx hb dX11_pairs_27 (by decide) ?_
    exact hret H locs ls 28 _ _ _ _ _ hw h rfl (show 0 ≤ 9 by omega) (show 0 ≤ 1222 by omega) dX11_pairs_28)
  refine lv_if_eq (tgt := 19) hx hb dX11_pairs_5 (by decide) (fun c20 => ?_) (fun c20 => ?_)
  · have h := h.1 c20
    refine lv_iconst (v := (0 : Int32)) hx hb dX11_pairs_19 (by decide) ?_
    exact h H locs ls hw (lv_sub hl [0, 1, 2] rfl)
  have h := h.2 c20
  refine lv_iload_n hx hb dX11_pairs_8 rfl (lv_at hl 2 rfl) ?_
  refine P_calli (va_runS (own := "LeastreaderModel") (As := [.int a2]) (rest := [.ref (ad 0)]) ⟨hx, hb, hml, hown, ht⟩ (c_X11_isOne a2 h) (va_cwS 1 ht (G_S q_1342 q_1343 q_56 q_1344) rfl rfl rfl hd_91 ⟨Nat.le_of_ble_eq_true rfl, Nat.le_of_ble_eq_true rfl⟩) ⟨PM_blind, PM_pre⟩ rfl rfl hl.1 rfl (lv_room (Nat.le_of_ble_eq_true rfl)) dX11_pairs_9 ⟨show 0 + 0 ≤ 9 by omega, show 0 + 0 ≤ 1222 by omega⟩) (fun r21 h => ?_)
  refine lv_if_eq (tgt := 19) hx hb dX11_pairs_12 (by decide) (fun c22 => ?_) (fun c22 => ?_)
  · have h := h.1 c22
    refine lv_iconst (v := (0 : Int32)) hx hb dX11_pairs_19 (by decide) ?_
    exact h H locs ls hw (lv_sub hl [0, 1, 2] rfl)
  have h := h.2 c22
  refine lv_iconst (v := (1 : Int32)) hx hb dX11_pairs_15 (by decide) ?_
  refine lv_goto (tgt := 20) hx hb dX11_pairs_16 (by decide) ?_
  exact h H locs ls hw (lv_sub hl [0, 1, 2] rfl)
end
/-! part 75.r14 -/
section
def wp_X11_together (μ : TMem) (a1 : Int32) (a2 : Int32) (a3 : Int32) (a4 : Int32) (Q : Int32 → TMem → Prop) : Prop :=
  wp_X11_isOne a1 (fun (r1 : Int32) => ∀ J2 : Int32 → Prop, (∀ (j3 : Int32), (wp_X11_isIn a3 (0 : Int32) (3 : Int32) (fun (r4 : Int32) => ∀ J5 : Int32 → Prop, (∀ (j6 : Int32), (wp_X11_isThrown μ j3 j6 (fun (r8 : Int32) (μ7 : TMem) => (r8 = 0 → (wp_X11_both μ7 a1 a2 a3 (fun (r47 : Option AI) => (r47 = none → (wp_X11_least_n (fun (r30 : Option AI) => (r30 = none → (wp_X11_isCrowded_n μ7 (3 : Int32) (fun (r19 : Int32) (μ18 : TMem) => (r19 = 0 → ((¬ a4 = (-1 : Int32) → (False)) ∧ (a4 = (-1 : Int32) → (False)))) ∧ (¬ r19 = 0 → (Q (0 : Int32) μ18))))) ∧ (∀ (n16 : Nat) (f17 : Nat → Int32), r30 = some (n16, f17) → (wp_X11_isCrowded μ7 n16 f17 (3 : Int32) (fun (r23 : Int32) (μ22 : TMem) => (r23 = 0 → ((¬ a4 = (-1 : Int32) → (wp_X11_ways n16 f17 a4 (fun (n27 : Nat) (f28 : Nat → Int32) => vp_in (a4 * ((nI n16) / (4 : Int32))) n27 ∧ (Q (f28 (a4 * ((nI n16) / (4 : Int32))).toNatClampNeg) μ22)))) ∧ (a4 = (-1 : Int32) → (Q ((nI n16) / (4 : Int32)) μ22)))) ∧ (¬ r23 = 0 → (Q (0 : Int32) μ22)))))))) ∧ (∀ (n13 : Nat) (f14 : Nat → Int32), r47 = some (n13, f14) → (wp_X11_least n13 f14 (fun (r46 : Option AI) => (r46 = none → (wp_X11_isCrowded_n μ7 (3 : Int32) (fun (r35 : Int32) (μ34 : TMem) => (r35 = 0 → ((¬ a4 = (-1 : Int32) → (False)) ∧ (a4 = (-1 : Int32) → (False)))) ∧ (¬ r35 = 0 → (Q (0 : Int32) μ34))))) ∧ (∀ (n32 : Nat) (f33 : Nat → Int32), r46 = some (n32, f33) → (wp_X11_isCrowded μ7 n32 f33 (3 : Int32) (fun (r39 : Int32) (μ38 : TMem) => (r39 = 0 → ((¬ a4 = (-1 : Int32) → (wp_X11_ways n32 f33 a4 (fun (n43 : Nat) (f44 : Nat → Int32) => vp_in (a4 * ((nI n32) / (4 : Int32))) n43 ∧ (Q (f44 (a4 * ((nI n32) / (4 : Int32))).toNatClampNeg) μ38)))) ∧ (a4 = (-1 : Int32) → (Q ((nI n32) / (4 : Int32)) μ38)))) ∧ (¬ r39 = 0 → (Q (0 : Int32) μ38))))))))))) ∧ (¬ r8 = 0 → (Q (0 : Int32) μ7)))) → J5 j6) → ((r4 = 0 → (J5 (0 : Int32))) ∧ (¬ r4 = 0 → (wp_X11_isIn a4 (-1 : Int32) (12 : Int32) (fun (r49 : Int32) => (r49 = 0 → (J5 (0 : Int32))) ∧ (¬ r49 = 0 → (J5 (1 : Int32))))))))) → J2 j3) → ((r1 = 0 → (J2 (0 : Int32))) ∧ (¬ r1 = 0 → (wp_X11_isOne a2 (fun (r52 : Int32) => (r52 = 0 → (J2 (0 : Int32))) ∧ (¬ r52 = 0 → (J2 (1 : Int32))))))))
set_option maxHeartbeats 4000000 in
set_option maxRecDepth 100000 in
theorem c_X11_together {l : Launch} {D : va_G} {ad : Nat → Nat} {cI cL : ClassId}  (μ : TMem) (sz : Nat) (a1 : Int32) (a2 : Int32) (a3 : Int32) (a4 : Int32)  {Q : Int32 → TMem → Prop} (h : wp_X11_together μ a1 a2 a3 a4 Q) : MMi l yX11_together (.code yX11_together cX11_together 6 (Option.some Jvm.ClassFile.FieldType.int)) 4 48 3142 [.ref (ad 0), .int a1, .int a2, .int a3, .int a4] D ad cI cL sz μ [] Q := by
  refine M_meti (by decide +kernel) (Nat.le_of_ble_eq_true rfl) ?_
  intro p e s m below meth c Z ls hx hb hml hown ht hK hP0 hI hne hw hret hl
  have hl : lv_has ls 6 [(0, .ref (ad 0)), (1, .int a1), (2, .int a2), (3, .int a3), (4, .int a4)] := hl
  suffices hh : ∀ (H : Heap) (locs : List Loc), MW D (MR ad cI μ) [] (MA ad s.heap.size) s H locs → W p l e (RA 4 48 3142) s m #[.ref (ad 0), .int a1, .int a2, .int a3, .int a4] below meth c H locs 0 0 Z (F0 m 0 ls []) from hh _ _ hw
  intro H locs hw
  change wp_X11_isOne a1 (fun (r1 : Int32) => ∀ J2 : Int32 → Prop, (∀ (j3 : Int32), (wp_X11_isIn a3 (0 : Int32) (3 : Int32) (fun (r4 : Int32) => ∀ J5 : Int32 → Prop, (∀ (j6 : Int32), (wp_X11_isThrown μ j3 j6 (fun (r8 : Int32) (μ7 : TMem) => (r8 = 0 → (wp_X11_both μ7 a1 a2 a3 (fun (r47 : Option AI) => (r47 = none → (wp_X11_least_n (fun (r30 : Option AI) => (r30 = none → (wp_X11_isCrowded_n μ7 (3 : Int32) (fun (r19 : Int32) (μ18 : TMem) => (r19 = 0 → ((¬ a4 = (-1 : Int32) → (False)) ∧ (a4 = (-1 : Int32) → (False)))) ∧ (¬ r19 = 0 → (Q (0 : Int32) μ18))))) ∧ (∀ (n16 : Nat) (f17 : Nat → Int32), r30 = some (n16, f17) → (wp_X11_isCrowded μ7 n16 f17 (3 : Int32) (fun (r23 : Int32) (μ22 : TMem) => (r23 = 0 → ((¬ a4 = (-1 : Int32) → (wp_X11_ways n16 f17 a4 (fun (n27 : Nat) (f28 : Nat → Int32) => vp_in (a4 * ((nI n16) / (4 : Int32))) n27 ∧ (Q (f28 (a4 * ((nI n16) / (4 : Int32))).toNatClampNeg) μ22)))) ∧ (a4 = (-1 : Int32) → (Q ((nI n16) / (4 : Int32)) μ22)))) ∧ (¬ r23 = 0 → (Q (0 : Int32) μ22)))))))) ∧ (∀ (n13 : Nat) (f14 : Nat → Int32), r47 = some (n13, f14) → (wp_X11_least n13 f14 (fun (r46 : Option AI) => (r46 = none → (wp_X11_isCrowded_n μ7 (3 : Int32) (fun (r35 : Int32) (μ34 : TMem) => (r35 = 0 → ((¬ a4 = (-1 : Int32) → (False)) ∧ (a4 = (-1 : Int32) → (False)))) ∧ (¬ r35 = 0 → (Q (0 : Int32) μ34))))) ∧ (∀ (n32 : Nat) (f33 : Nat → Int32), r46 = some (n32, f33) → (wp_X11_isCrowded μ7 n32 f33 (3 : Int32) (fun (r39 : Int32) (μ38 : TMem) => (r39 = 0 → ((¬ a4 = (-1 : Int32) → (wp_X11_ways n32 f33 a4 (fun (n43 : Nat) (f44 : Nat → Int32) => vp_in (a4 * ((nI n32) / (4 : Int32))) n43 ∧ (Q (f44 (a4 * ((nI n32) / (4 : Int32))).toNatClampNeg) μ38)))) ∧ (a4 = (-1 : Int32) → (Q ((nI n32) / (4 : Int32)) μ38)))) ∧ (¬ r39 = 0 → (Q (0 : Int32) μ38))))))))))) ∧ (¬ r8 = 0 → (Q (0 : Int32) μ7)))) → J5 j6) → ((r4 = 0 → (J5 (0 : Int32))) ∧ (¬ r4 = 0 → (wp_X11_isIn a4 (-1 : Int32) (12 : Int32) (fun (r49 : Int32) => (r49 = 0 → (J5 (0 : Int32))) ∧ (¬ r49 = 0 → (J5 (1 : Int32))))))))) → J2 j3) → ((r1 = 0 → (J2 (0 : Int32))) ∧ (¬ r1 = 0 → (wp_X11_isOne a2 (fun (r52 : Int32) => (r52 = 0 → (J2 (0 : Int32))) ∧ (¬ r52 = 0 → (J2 (1 : Int32)))))))) at h
  refine lv_aload_n hx hb dX11_together_0 rfl (lv_at hl 0 rfl) ?_
  refine lv_iload_n hx hb dX11_together_1 rfl (lv_at hl 1 rfl) ?_
  refine P_calli (va_runS (own := "LeastreaderModel") (As := [.int a1]) (rest := [.ref (ad 0)]) ⟨hx, hb, hml, hown, ht⟩ (c_X11_isOne a1 h) (va_cwS 1 ht (G_S q_1342 q_1343 q_56 q_1344) rfl rfl rfl hd_91 ⟨Nat.le_of_ble_eq_true rfl, Nat.le_of_ble_eq_true rfl⟩) ⟨PM_blind, PM_pre⟩ rfl rfl hl.1 rfl (lv_room (Nat.le_of_ble_eq_true rfl)) dX11_together_2 ⟨show 0 + 0 ≤ 48 by omega, show 0 + 0 ≤ 3142 by omega⟩) (fun r1 h => ?_)
  have h := h (fun (j3 : Int32) => ∀ (H : Heap) (locs : List Loc) (ls : Array Slot), MW D (MR ad cI μ) [] (MA ad s.heap.size) s H locs → lv_has ls 6 [(0, .ref (ad 0)), (1, .int a1), (2, .int a2), (3, .int a3), (4, .int a4)] → W p l e (RA 4 48 3142) s m #[.ref (ad 0), .int a1, .int a2, .int a3, .int a4] below meth c H locs 0 0 Z (F0 m 20 ls [.int j3, .ref (ad 0)])) (fun j3 h H locs ls hw hl => by
    refine lv_iload_n hx hb dX11_together_20 rfl (lv_at hl 3 rfl) ?_
    refine lv_iconst (v := (0 : Int32)) hx hb dX11_together_21 (by decide) ?_
    refine lv_iconst (v := (3 : Int32)) hx hb dX11_together_22 (by decide) ?_
    refine P_calli (va_runS (own := "LeastreaderModel") (As := [.int a3, .int (0 : Int32), .int (3 : Int32)]) (rest := [.int j3, .ref (ad 0)]) ⟨hx, hb, hml, hown, ht⟩ (c_X11_isIn a3 (0 : Int32) (3 : Int32) h) (va_cwS 3 ht (G_S q_1345 q_1346 q_56 q_1347) rfl rfl rfl hd_78 ⟨Nat.le_of_ble_eq_true rfl, Nat.le_of_ble_eq_true rfl⟩) ⟨PM_blind, PM_pre⟩ rfl rfl hl.1 rfl (lv_room (Nat.le_of_ble_eq_true rfl)) dX11_together_23 ⟨show 0 + 0 ≤ 48 by omega, show 0 + 0 ≤ 3142 by omega⟩) (fun r4 h => ?_)
    have h := h (fun (j6 : Int32) => ∀ (H : Heap) (locs : List Loc) (ls : Array Slot), MW D (MR ad cI μ) [] (MA ad s.heap.size) s H locs → lv_has ls 6 [(0, .ref (ad 0)), (1, .int a1), (2, .int a2), (3, .int a3), (4, .int a4)] → W p l e (RA 4 48 3142) s m #[.ref (ad 0), .int a1, .int a2, .int a3, .int a4] below meth c H locs 0 0 Z (F0 m 45 ls [.int j6, .int j3, .ref (ad 0)])) (fun j6 h H locs ls hw hl => by
      refine M_calli hw (MA.up hw.2.2.1.1) (va_runV (own := "LeastreaderModel") (As := [.int j3, .int j6]) (rest := []) ⟨hx, hb, hml, hown, ht⟩ (c_X11_isThrown μ H.size j3 j6 h) (cwV 2 ht (G_V q_1348 q_1350 q_26 q_56 q_1351) rfl rfl rfl ⟨rfl, hd_92⟩ ⟨Nat.le_of_ble_eq_true rfl, Nat.le_of_ble_eq_true rfl⟩) ⟨MB.blind, M_recv hK hw, MB.pre hK hI hw va_P0 ne0⟩ rfl rfl hl.1 rfl (lv_room (Nat.le_of_ble_eq_true rfl)) dX11_together_45 ⟨show 0 + 0 ≤ 48 by omega, show 0 + 0 ≤ 3142 by omega⟩) (fun r8 μ7 H locs h hw => ?_)
      refine lv_if_eq (tgt := 53) hx hb dX11_together_48 (by decide) (fun c9 => ?_) (fun c9 => ?_)
      · have h := h.1 c9
        refine lv_aload_n hx hb dX11_together_53 rfl (lv_at hl 0 rfl) ?_
        refine lv_iload_n hx hb dX11_together_54 rfl (lv_at hl 1 rfl) ?_
        refine lv_iload_n hx hb dX11_together_55 rfl (lv_at hl 2 rfl) ?_
        refine lv_iload_n hx hb dX11_together_56 rfl (lv_at hl 3 rfl) ?_
        refine M_callA hw (MA.up hw.2.2.1.1) (va_runV (own := "LeastreaderModel") (As := [.int a1, .int a2, .int a3]) (rest := []) ⟨hx, hb, hml, hown, ht⟩ (c_X11_both μ7 H.size a1 a2 a3 h) (cwV 3 ht (G_V q_1483 q_1485 q_40 q_56 q_1486) rfl rfl rfl ⟨rfl, hd_105⟩ ⟨Nat.le_of_ble_eq_true rfl, Nat.le_of_ble_eq_true rfl⟩) ⟨MB.blind, M_recv hK hw, MB.pre hK hI hw va_P0 ne0⟩ rfl rfl hl.1 rfl (lv_room (Nat.le_of_ble_eq_true rfl)) dX11_together_57 ⟨show 0 + 10 ≤ 48 by omega, show 0 + 1350 ≤ 3142 by omega⟩) (fun μ10 H locs h hw => ?_) (fun q12 n13 f14 μ10 H locs hq12 h hw => ?_)
        · skip
          obtain ⟨e11, h⟩ := h
          rw [e11] at hw
          have h := h.1 rfl
          refine S_callA hw (va_runS (own := "LeastreaderModel") (As := [.null]) (rest := []) ⟨hx, hb, hml, hown, ht⟩ (c_X11_least_n H.size h) (va_cwS 1 ht (G_S q_1466 q_1467 q_56 q_1468) rfl rfl rfl hd_87 ⟨Nat.le_of_ble_eq_true rfl, Nat.le_of_ble_eq_true rfl⟩) ⟨SB.blind, SB.pre hK va_P0⟩ rfl rfl hl.1 rfl (lv_room (Nat.le_of_ble_eq_true rfl)) dX11_together_60 ⟨show 10 + 0 ≤ 48 by omega, show 1350 + 0 ≤ 3142 by omega⟩) (fun H locs h hw => ?_) (fun q15 n16 f17 H locs hq15 h hw => ?_)
          · skip
            have h := h.1 rfl
            refine lv_astoreN (lv' := [(5, .null), (0, .ref (ad 0)), (1, .int a1), (2, .int a2), (3, .int a3), (4, .int a4)]) hx hb dX11_together_63 hl (by decide) rfl (fun ls hl => ?_)
            refine lv_aload_n hx hb dX11_together_65 rfl (lv_at hl 1 rfl) ?_
            refine lv_aloadN hx hb dX11_together_66 (lv_at hl 0 rfl) ?_
            refine lv_iconst (v := (3 : Int32)) hx hb dX11_together_68 (by decide) ?_
            refine M_calli hw (MA.up hw.2.2.1.1) (va_runV (own := "LeastreaderModel") (As := [.null, .int (3 : Int32)]) (rest := []) ⟨hx, hb, hml, hown, ht⟩ (c_X11_isCrowded_n μ7 H.size (3 : Int32) h) (cwV 2 ht (G_V q_1520 q_1522 q_42 q_56 q_1523) rfl rfl rfl ⟨rfl, hd_109⟩ ⟨Nat.le_of_ble_eq_true rfl, Nat.le_of_ble_eq_true rfl⟩) ⟨MB.blind, M_recv hK hw, MB.pre hK hI hw va_P0 ne0⟩ rfl rfl hl.1 rfl (lv_room (Nat.le_of_ble_eq_true rfl)) dX11_together_69 ⟨show 10 + 0 ≤ 48 by omega, show 1350 + 0 ≤ 3142 by omega⟩) (fun r19 μ18 H locs h hw => ?_)
            refine lv_if_eq (tgt := 77) hx hb dX11_together_72 (by decide) (fun c20 => ?_) (fun c20 => ?_)
            · have h := h.1 c20
              refine lv_iload hx hb dX11_together_77 (lv_at hl 5 rfl) ?_
              refine lv_iconst (v := (-1 : Int32)) hx hb dX11_together_79 (by decide) ?_
              refine lv_icmp_ne (tgt := 91) hx hb dX11_together_80 (by decide) (fun c21 => ?_) (fun c21 => ?_)
              · have h := h.1 c21
                refine lv_aloadN hx hb dX11_together_91 (lv_at hl 0 rfl) ?_
                refine lv_iload hx hb dX11_together_93 (lv_at hl 5 rfl) ?_
                exact False.elim h
              have h := h.2 c21
              refine lv_aloadN hx hb dX11_together_83 (lv_at hl 0 rfl) ?_
              exact False.elim h
            have h := h.2 c20
            refine lv_iconst (v := (0 : Int32)) hx hb dX11_together_75 (by decide) ?_
            exact hret H locs ls 76 _ _ _ _ _ hw h rfl (show 10 ≤ 48 by omega) (show 1350 ≤ 3142 by omega) dX11_together_76
          have h := h.2 _ _ rfl
          have hw : MW D (MR ad cI μ7) [eI cI q15 n16 f17] (MA ad s.heap.size) s H locs := hw
          refine lv_astore (lv' := [(5, .ref q15), (0, .ref (ad 0)), (1, .int a1), (2, .int a2), (3, .int a3), (4, .int a4)]) hx hb dX11_together_63 hl (by decide) rfl (fun ls hl => ?_)
          refine lv_aload_n hx hb dX11_together_65 rfl (lv_at hl 1 rfl) ?_
          refine lv_aload hx hb dX11_together_66 (lv_at hl 0 rfl) ?_
          refine lv_iconst (v := (3 : Int32)) hx hb dX11_together_68 (by decide) ?_
          refine M_calli hw (MA.up hw.2.2.1.1) (va_runV (own := "LeastreaderModel") (As := [.ref q15, .int (3 : Int32)]) (rest := []) ⟨hx, hb, hml, hown, ht⟩ (c_X11_isCrowded q15 μ7 H.size n16 f17 (3 : Int32) h) (cwV 2 ht (G_V q_1520 q_1522 q_42 q_56 q_1523) rfl rfl rfl ⟨rfl, hd_109⟩ ⟨Nat.le_of_ble_eq_true rfl, Nat.le_of_ble_eq_true rfl⟩) ⟨MB.blind, M_recv hK hw, MB.pre hK hI hw (va_Pc2 (hw.n (j := 0) rfl) va_P0) (neC (hw.ne (j := 0) rfl) ne0)⟩ rfl rfl hl.1 rfl (lv_room (Nat.le_of_ble_eq_true rfl)) dX11_together_69 ⟨show 10 + 0 ≤ 48 by omega, show 1350 + 0 ≤ 3142 by omega⟩) (fun r23 μ22 H locs h hw => ?_)
          refine lv_if_eq (tgt := 77) hx hb dX11_together_72 (by decide) (fun c24 => ?_) (fun c24 => ?_)
          · have h := h.1 c24
            refine lv_iload hx hb dX11_together_77 (lv_at hl 5 rfl) ?_
            refine lv_iconst (v := (-1 : Int32)) hx hb dX11_together_79 (by decide) ?_
            refine lv_icmp_ne (tgt := 91) hx hb dX11_together_80 (by decide) (fun c25 => ?_) (fun c25 => ?_)
            · have h := h.1 c25
              refine lv_aload hx hb dX11_together_91 (lv_at hl 0 rfl) ?_
              refine lv_iload hx hb dX11_together_93 (lv_at hl 5 rfl) ?_
              refine S_callA hw (va_runS (own := "LeastreaderModel") (As := [.ref q15, .int a4]) (rest := []) ⟨hx, hb, hml, hown, ht⟩ (c_X11_ways q15 H.size n16 f17 a4 h) (va_cwS 2 ht (G_S q_1552 q_1553 q_56 q_1554) rfl rfl rfl hd_111 ⟨Nat.le_of_ble_eq_true rfl, Nat.le_of_ble_eq_true rfl⟩) ⟨SB.blind, SB.pre hK (va_Pc2 (hw.n (j := 0) rfl) va_P0)⟩ rfl rfl hl.1 rfl (lv_room (Nat.le_of_ble_eq_true rfl)) dX11_together_95 ⟨show 10 + 1 ≤ 48 by omega, show 1350 + 416 ≤ 3142 by omega⟩) (fun _ _ h _ => by obtain ⟨_, _, h, _⟩ := h; cases h) (fun q26 n27 f28 H locs hq26 h hw => ?_)
              obtain ⟨_, _, e9, h⟩ := h
              cases e9
              have hw : MW D (MR ad cI μ22) [eI cI q15 n16 f17, eI cI q26 n27 f28] (MA ad s.heap.size) s H locs := hw
              refine lv_iload hx hb dX11_together_98 (lv_at hl 5 rfl) ?_
              refine lv_aload hx hb dX11_together_100 (lv_at hl 0 rfl) ?_
              refine n_alenI hx hb hK (hw.n (j := 0) rfl) dX11_together_102 ?_
              refine lv_iconst (v := (4 : Int32)) hx hb dX11_together_103 (by decide) ?_
              refine lv_idiv hx hb dX11_together_104 (by decide) ?_
              refine lv_imul hx hb dX11_together_105 ?_
              obtain ⟨z29, h⟩ := h
              refine n_iald hx hb hK (hw.n (j := 1) rfl) z29 dX11_together_106 ?_
              exact hret H locs ls 107 _ _ _ _ _ hw h rfl (show 11 ≤ 48 by omega) (show 1766 ≤ 3142 by omega) dX11_together_107
            have h := h.2 c25
            refine lv_aload hx hb dX11_together_83 (lv_at hl 0 rfl) ?_
            refine n_alenI hx hb hK (hw.n (j := 0) rfl) dX11_together_85 ?_
            refine lv_iconst (v := (4 : Int32)) hx hb dX11_together_86 (by decide) ?_
            refine lv_idiv hx hb dX11_together_87 (by decide) ?_
            refine lv_goto (tgt := 107) hx hb dX11_together_88 (by decide) ?_
            exact hret H locs ls 107 _ _ _ _ _ hw h rfl (show 10 ≤ 48 by omega) (show 1350 ≤ 3142 by omega) dX11_together_107
          have h := h.2 c24
          refine lv_iconst (v := (0 : Int32)) hx hb dX11_together_75 (by decide) ?_
          exact hret H locs ls 76 _ _ _ _ _ hw h rfl (show 10 ≤ 48 by omega) (show 1350 ≤ 3142 by omega) dX11_together_76
        obtain ⟨e11, h⟩ := h
        rw [e11] at hw
        have h := h.2 _ _ rfl
        have hw : MW D (MR ad cI μ7) [eI cI q12 n13 f14] (MA ad s.heap.size) s H locs := hw
        refine S_callA hw (va_runS (own := "LeastreaderModel") (As := [.ref q12]) (rest := []) ⟨hx, hb, hml, hown, ht⟩ (c_X11_least q12 H.size n13 f14 h) (va_cwS 1 ht (G_S q_1466 q_1467 q_56 q_1468) rfl rfl rfl hd_87 ⟨Nat.le_of_ble_eq_true rfl, Nat.le_of_ble_eq_true rfl⟩) ⟨SB.blind, SB.pre hK (va_Pc2 (hw.n (j := 0) rfl) va_P0)⟩ rfl rfl hl.1 rfl (lv_room (Nat.le_of_ble_eq_true rfl)) dX11_together_60 ⟨show 10 + 37 ≤ 48 by omega, show 1350 + 1376 ≤ 3142 by omega⟩) (fun H locs h hw => ?_) (fun q31 n32 f33 H locs hq31 h hw => ?_)
        · skip
          have h := h.1 rfl
          refine lv_astoreN (lv' := [(5, .null), (0, .ref (ad 0)), (1, .int a1), (2, .int a2), (3, .int a3), (4, .int a4)]) hx hb dX11_together_63 hl (by decide) rfl (fun ls hl => ?_)
          refine lv_aload_n hx hb dX11_together_65 rfl (lv_at hl 1 rfl) ?_
          refine lv_aloadN hx hb dX11_together_66 (lv_at hl 0 rfl) ?_
          refine lv_iconst (v := (3 : Int32)) hx hb dX11_together_68 (by decide) ?_
          refine M_calli hw (MA.up hw.2.2.1.1) (va_runV (own := "LeastreaderModel") (As := [.null, .int (3 : Int32)]) (rest := []) ⟨hx, hb, hml, hown, ht⟩ (c_X11_isCrowded_n μ7 H.size (3 : Int32) h) (cwV 2 ht (G_V q_1520 q_1522 q_42 q_56 q_1523) rfl rfl rfl ⟨rfl, hd_109⟩ ⟨Nat.le_of_ble_eq_true rfl, Nat.le_of_ble_eq_true rfl⟩) ⟨MB.blind, M_recv hK hw, MB.pre hK hI hw va_P0 ne0⟩ rfl rfl hl.1 rfl (lv_room (Nat.le_of_ble_eq_true rfl)) dX11_together_69 ⟨show 47 + 0 ≤ 48 by omega, show 2726 + 0 ≤ 3142 by omega⟩) (fun r35 μ34 H locs h hw => ?_)
          refine lv_if_eq (tgt := 77) hx hb dX11_together_72 (by decide) (fun c36 => ?_) (fun c36 => ?_)
          · have h := h.1 c36
            refine lv_iload hx hb dX11_together_77 (lv_at hl 5 rfl) ?_
            refine lv_iconst (v := (-1 : Int32)) hx hb dX11_together_79 (by decide) ?_
            refine lv_icmp_ne (tgt := 91) hx hb dX11_together_80 (by decide) (fun c37 => ?_) (fun c37 => ?_)
            · have h := h.1 c37
              refine lv_aloadN hx hb dX11_together_91 (lv_at hl 0 rfl) ?_
              refine lv_iload hx hb dX11_together_93 (lv_at hl 5 rfl) ?_
              exact False.elim h
            have h := h.2 c37
            refine lv_aloadN hx hb dX11_together_83 (lv_at hl 0 rfl) ?_
            exact False.elim h
          have h := h.2 c36
          refine lv_iconst (v := (0 : Int32)) hx hb dX11_together_75 (by decide) ?_
          exact hret H locs ls 76 _ _ _ _ _ hw h rfl (show 47 ≤ 48 by omega) (show 2726 ≤ 3142 by omega) dX11_together_76
        have h := h.2 _ _ rfl
        have hw : MW D (MR ad cI μ7) [eI cI q12 n13 f14, eI cI q31 n32 f33] (MA ad s.heap.size) s H locs := hw
        refine lv_astore (lv' := [(5, .ref q31), (0, .ref (ad 0)), (1, .int a1), (2, .int a2), (3, .int a3), (4, .int a4)]) hx hb dX11_together_63 hl (by decide) rfl (fun ls hl => ?_)
        refine lv_aload_n hx hb dX11_together_65 rfl (lv_at hl 1 rfl) ?_
        refine lv_aload hx hb dX11_together_66 (lv_at hl 0 rfl) ?_
        refine lv_iconst (v := (3 : Int32)) hx hb dX11_together_68 (by decide) ?_
        refine M_calli hw (MA.up hw.2.2.1.1) (va_runV (own := "LeastreaderModel") (As := [.ref q31, .int (3 : Int32)]) (rest := []) ⟨hx, hb, hml, hown, ht⟩ (c_X11_isCrowded q31 μ7 H.size n32 f33 (3 : Int32) h) (cwV 2 ht (G_V q_1520 q_1522 q_42 q_56 q_1523) rfl rfl rfl ⟨rfl, hd_109⟩ ⟨Nat.le_of_ble_eq_true rfl, Nat.le_of_ble_eq_true rfl⟩) ⟨MB.blind, M_recv hK hw, MB.pre hK hI hw (va_Pc2 (hw.n (j := 1) rfl) va_P0) (neC (hw.ne (j := 1) rfl) ne0)⟩ rfl rfl hl.1 rfl (lv_room (Nat.le_of_ble_eq_true rfl)) dX11_together_69 ⟨show 47 + 0 ≤ 48 by omega, show 2726 + 0 ≤ 3142 by omega⟩) (fun r39 μ38 H locs h hw => ?_)
        refine lv_if_eq (tgt := 77) hx hb dX11_together_72 (by decide) (fun c40 => ?_) (fun c40 => ?_)
        · have h := h.1 c40
          refine lv_iload hx hb dX11_together_77 (lv_at hl 5 rfl) ?_
          refine lv_iconst (v := (-1 : Int32)) hx hb dX11_together_79 (by decide) ?_
          refine lv_icmp_ne (tgt := 91) hx hb dX11_together_80 (by decide) (fun c41 => ?_) (fun c41 => ?_)
          · have h := h.1 c41
            refine lv_aload hx hb dX11_together_91 (lv_at hl 0 rfl) ?_
            refine lv_iload hx hb dX11_together_93 (lv_at hl 5 rfl) ?_
            refine S_callA hw (va_runS (own := "LeastreaderModel") (As := [.ref q31, .int a4]) (rest := []) ⟨hx, hb, hml, hown, ht⟩ (c_X11_ways q31 H.size n32 f33 a4 h) (va_cwS 2 ht (G_S q_1552 q_1553 q_56 q_1554) rfl rfl rfl hd_111 ⟨Nat.le_of_ble_eq_true rfl, Nat.le_of_ble_eq_true rfl⟩) ⟨SB.blind, SB.pre hK (va_Pc2 (hw.n (j := 1) rfl) va_P0)⟩ rfl rfl hl.1 rfl (lv_room (Nat.le_of_ble_eq_true rfl)) dX11_together_95 ⟨show 47 + 1 ≤ 48 by omega, show 2726 + 416 ≤ 3142 by omega⟩) (fun _ _ h _ => by obtain ⟨_, _, h, _⟩ := h; cases h) (fun q42 n43 f44 H locs hq42 h hw => ?_)
            obtain ⟨_, _, e9, h⟩ := h
            cases e9
            have hw : MW D (MR ad cI μ38) [eI cI q12 n13 f14, eI cI q31 n32 f33, eI cI q42 n43 f44] (MA ad s.heap.size) s H locs := hw
            refine lv_iload hx hb dX11_together_98 (lv_at hl 5 rfl) ?_
            refine lv_aload hx hb dX11_together_100 (lv_at hl 0 rfl) ?_
            refine n_alenI hx hb hK (hw.n (j := 1) rfl) dX11_together_102 ?_
            refine lv_iconst (v := (4 : Int32)) hx hb dX11_together_103 (by decide) ?_
            refine lv_idiv hx hb dX11_together_104 (by decide) ?_
            refine lv_imul hx hb dX11_together_105 ?_
            obtain ⟨z45, h⟩ := h
            refine n_iald hx hb hK (hw.n (j := 2) rfl) z45 dX11_together_106 ?_
            exact hret H locs ls 107 _ _ _ _ _ hw h rfl (show 48 ≤ 48 by omega) (show 3142 ≤ 3142 by omega) dX11_together_107
          have h := h.2 c41
          refine lv_aload hx hb dX11_together_83 (lv_at hl 0 rfl) ?_
          refine n_alenI hx hb hK (hw.n (j := 1) rfl) dX11_together_85 ?_
          refine lv_iconst (v := (4 : Int32)) hx hb dX11_together_86 (by decide) ?_
          refine lv_idiv hx hb dX11_together_87 (by decide) ?_
          refine lv_goto (tgt := 107) hx hb dX11_together_88 (by decide) ?_
          exact hret H locs ls 107 _ _ _ _ _ hw h rfl (show 47 ≤ 48 by omega) (show 2726 ≤ 3142 by omega) dX11_together_107
        have h := h.2 c40
        refine lv_iconst (v := (0 : Int32)) hx hb dX11_together_75 (by decide) ?_
        exact hret H locs ls 76 _ _ _ _ _ hw h rfl (show 47 ≤ 48 by omega) (show 2726 ≤ 3142 by omega) dX11_together_76
      have h := h.2 c9
      refine lv_iconst (v := (0 : Int32)) hx hb dX11_together_51 (by decide) ?_
      exact hret H locs ls 52 _ _ _ _ _ hw h rfl (show 0 ≤ 48 by omega) (show 0 ≤ 3142 by omega) dX11_together_52)
    refine lv_if_eq (tgt := 44) hx hb dX11_together_26 (by decide) (fun c48 => ?_) (fun c48 => ?_)
    · have h := h.1 c48
      refine lv_iconst (v := (0 : Int32)) hx hb dX11_together_44 (by decide) ?_
      exact h H locs ls hw (lv_sub hl [0, 1, 2, 3, 4] rfl)
    have h := h.2 c48
    refine lv_iload hx hb dX11_together_29 (lv_at hl 4 rfl) ?_
    refine lv_iconst (v := (-1 : Int32)) hx hb dX11_together_31 (by decide) ?_
    refine lv_bipush (v := (12 : Int32)) hx hb dX11_together_32 (by decide) ?_
    refine P_calli (va_runS (own := "LeastreaderModel") (As := [.int a4, .int (-1 : Int32), .int (12 : Int32)]) (rest := [.int j3, .ref (ad 0)]) ⟨hx, hb, hml, hown, ht⟩ (c_X11_isIn a4 (-1 : Int32) (12 : Int32) h) (va_cwS 3 ht (G_S q_1345 q_1346 q_56 q_1347) rfl rfl rfl hd_78 ⟨Nat.le_of_ble_eq_true rfl, Nat.le_of_ble_eq_true rfl⟩) ⟨PM_blind, PM_pre⟩ rfl rfl hl.1 rfl (lv_room (Nat.le_of_ble_eq_true rfl)) dX11_together_34 ⟨show 0 + 0 ≤ 48 by omega, show 0 + 0 ≤ 3142 by omega⟩) (fun r49 h => ?_)
    refine lv_if_eq (tgt := 44) hx hb dX11_together_37 (by decide) (fun c50 => ?_) (fun c50 => ?_)
    · have h := h.1 c50
      refine lv_iconst (v := (0 : Int32)) hx hb dX11_together_44 (by decide) ?_
      exact h H locs ls hw (lv_sub hl [0, 1, 2, 3, 4] rfl)
    have h := h.2 c50
    refine lv_iconst (v := (1 : Int32)) hx hb dX11_together_40 (by decide) ?_
    refine lv_goto (tgt := 45) hx hb dX11_together_41 (by decide) ?_
    exact h H locs ls hw (lv_sub hl [0, 1, 2, 3, 4] rfl))
  refine lv_if_eq (tgt := 19) hx hb dX11_together_5 (by decide) (fun c51 => ?_) (fun c51 => ?_)
  · have h := h.1 c51
    refine lv_iconst (v := (0 : Int32)) hx hb dX11_together_19 (by decide) ?_
    exact h H locs ls hw (lv_sub hl [0, 1, 2, 3, 4] rfl)
  have h := h.2 c51
  refine lv_iload_n hx hb dX11_together_8 rfl (lv_at hl 2 rfl) ?_
  refine P_calli (va_runS (own := "LeastreaderModel") (As := [.int a2]) (rest := [.ref (ad 0)]) ⟨hx, hb, hml, hown, ht⟩ (c_X11_isOne a2 h) (va_cwS 1 ht (G_S q_1342 q_1343 q_56 q_1344) rfl rfl rfl hd_91 ⟨Nat.le_of_ble_eq_true rfl, Nat.le_of_ble_eq_true rfl⟩) ⟨PM_blind, PM_pre⟩ rfl rfl hl.1 rfl (lv_room (Nat.le_of_ble_eq_true rfl)) dX11_together_9 ⟨show 0 + 0 ≤ 48 by omega, show 0 + 0 ≤ 3142 by omega⟩) (fun r52 h => ?_)
  refine lv_if_eq (tgt := 19) hx hb dX11_together_12 (by decide) (fun c53 => ?_) (fun c53 => ?_)
  · have h := h.1 c53
    refine lv_iconst (v := (0 : Int32)) hx hb dX11_together_19 (by decide) ?_
    exact h H locs ls hw (lv_sub hl [0, 1, 2, 3, 4] rfl)
  have h := h.2 c53
  refine lv_iconst (v := (1 : Int32)) hx hb dX11_together_15 (by decide) ?_
  refine lv_goto (tgt := 20) hx hb dX11_together_16 (by decide) ?_
  exact h H locs ls hw (lv_sub hl [0, 1, 2, 3, 4] rfl)
def wp_X11_house (μ : TMem) (a1 : Int32) (Q : Int32 → TMem → Prop) : Prop :=
  wp_X11_isIn a1 (0 : Int32) (2 : Int32) (fun (r1 : Int32) => wp_X11_isThrown μ r1 (1 : Int32) (fun (r3 : Int32) (μ2 : TMem) => (r3 = 0 → ((¬ a1 = 0 → ((¬ a1 = (1 : Int32) → (Q (μ2 0 6) μ2)) ∧ (a1 = (1 : Int32) → (Q (μ2 0 5) μ2)))) ∧ (a1 = 0 → (Q (μ2 0 4) μ2)))) ∧ (¬ r3 = 0 → (Q (0 : Int32) μ2))))
set_option maxHeartbeats 4000000 in
set_option maxRecDepth 100000 in
theorem c_X11_house {l : Launch} {D : va_G} {ad : Nat → Nat} {cI cL : ClassId}  (μ : TMem) (sz : Nat) (a1 : Int32)  {Q : Int32 → TMem → Prop} (h : wp_X11_house μ a1 Q) : MMi l yX11_house (.code yX11_house cX11_house 2 (Option.some Jvm.ClassFile.FieldType.int)) 1 0 0 [.ref (ad 0), .int a1] D ad cI cL sz μ [] Q := by
  refine M_meti (by decide +kernel) (Nat.le_of_ble_eq_true rfl) ?_
  intro p e s m below meth c Z ls hx hb hml hown ht hK hP0 hI hne hw hret hl
  have hl : lv_has ls 2 [(0, .ref (ad 0)), (1, .int a1)] := hl
  suffices hh : ∀ (H : Heap) (locs : List Loc), MW D (MR ad cI μ) [] (MA ad s.heap.size) s H locs → W p l e (RA 1 0 0) s m #[.ref (ad 0), .int a1] below meth c H locs 0 0 Z (F0 m 0 ls []) from hh _ _ hw
  intro H locs hw
  change wp_X11_isIn a1 (0 : Int32) (2 : Int32) (fun (r1 : Int32) => wp_X11_isThrown μ r1 (1 : Int32) (fun (r3 : Int32) (μ2 : TMem) => (r3 = 0 → ((¬ a1 = 0 → ((¬ a1 = (1 : Int32) → (Q (μ2 0 6) μ2)) ∧ (a1 = (1 : Int32) → (Q (μ2 0 5) μ2)))) ∧ (a1 = 0 → (Q (μ2 0 4) μ2)))) ∧ (¬ r3 = 0 → (Q (0 : Int32) μ2)))) at h
  refine lv_aload_n hx hb dX11_house_0 rfl (lv_at hl 0 rfl) ?_
  refine lv_iload_n hx hb dX11_house_1 rfl (lv_at hl 1 rfl) ?_
  refine lv_iconst (v := (0 : Int32)) hx hb dX11_house_2 (by decide) ?_
  refine lv_iconst (v := (2 : Int32)) hx hb dX11_house_3 (by decide) ?_
  refine P_calli (va_runS (own := "LeastreaderModel") (As := [.int a1, .int (0 : Int32), .int (2 : Int32)]) (rest := [.ref (ad 0)]) ⟨hx, hb, hml, hown, ht⟩ (c_X11_isIn a1 (0 : Int32) (2 : Int32) h) (va_cwS 3 ht (G_S q_1345 q_1346 q_56 q_1347) rfl rfl rfl hd_78 ⟨Nat.le_of_ble_eq_true rfl, Nat.le_of_ble_eq_true rfl⟩) ⟨PM_blind, PM_pre⟩ rfl rfl hl.1 rfl (lv_room (Nat.le_of_ble_eq_true rfl)) dX11_house_4 ⟨show 0 + 0 ≤ 0 by omega, show 0 + 0 ≤ 0 by omega⟩) (fun r1 h => ?_)
  refine lv_iconst (v := (1 : Int32)) hx hb dX11_house_7 (by decide) ?_
  refine M_calli hw (MA.up hw.2.2.1.1) (va_runV (own := "LeastreaderModel") (As := [.int r1, .int (1 : Int32)]) (rest := []) ⟨hx, hb, hml, hown, ht⟩ (c_X11_isThrown μ H.size r1 (1 : Int32) h) (cwV 2 ht (G_V q_1348 q_1350 q_26 q_56 q_1351) rfl rfl rfl ⟨rfl, hd_92⟩ ⟨Nat.le_of_ble_eq_true rfl, Nat.le_of_ble_eq_true rfl⟩) ⟨MB.blind, M_recv hK hw, MB.pre hK hI hw va_P0 ne0⟩ rfl rfl hl.1 rfl (lv_room (Nat.le_of_ble_eq_true rfl)) dX11_house_8 ⟨show 0 + 0 ≤ 0 by omega, show 0 + 0 ≤ 0 by omega⟩) (fun r3 μ2 H locs h hw => ?_)
  refine lv_if_eq (tgt := 16) hx hb dX11_house_11 (by decide) (fun c4 => ?_) (fun c4 => ?_)
  · have h := h.1 c4
    refine lv_iload_n hx hb dX11_house_16 rfl (lv_at hl 1 rfl) ?_
    refine lv_if_ne (tgt := 27) hx hb dX11_house_17 (by decide) (fun c5 => ?_) (fun c5 => ?_)
    · have h := h.1 c5
      refine lv_iload_n hx hb dX11_house_27 rfl (lv_at hl 1 rfl) ?_
      refine lv_iconst (v := (1 : Int32)) hx hb dX11_house_28 (by decide) ?_
      refine lv_icmp_ne (tgt := 39) hx hb dX11_house_29 (by decide) (fun c6 => ?_) (fun c6 => ?_)
      · have h := h.1 c6
        refine lv_aload_n hx hb dX11_house_39 rfl (lv_at hl 0 rfl) ?_
        refine m_get (i := 6) hx hb ht hown hK hw (by decide) (ht _ q_1319) rfl rfl dX11_house_40 ?_
        exact hret H locs ls 43 _ _ _ _ _ hw h rfl (show 0 ≤ 0 by omega) (show 0 ≤ 0 by omega) dX11_house_43
      have h := h.2 c6
      refine lv_aload_n hx hb dX11_house_32 rfl (lv_at hl 0 rfl) ?_
      refine m_get (i := 5) hx hb ht hown hK hw (by decide) (ht _ q_1318) rfl rfl dX11_house_33 ?_
      refine lv_goto (tgt := 43) hx hb dX11_house_36 (by decide) ?_
      exact hret H locs ls 43 _ _ _ _ _ hw h rfl (show 0 ≤ 0 by omega) (show 0 ≤ 0 by omega) dX11_house_43
    have h := h.2 c5
    refine lv_aload_n hx hb dX11_house_20 rfl (lv_at hl 0 rfl) ?_
    refine m_get (i := 4) hx hb ht hown hK hw (by decide) (ht _ q_1317) rfl rfl dX11_house_21 ?_
    refine lv_goto (tgt := 43) hx hb dX11_house_24 (by decide) ?_
    exact hret H locs ls 43 _ _ _ _ _ hw h rfl (show 0 ≤ 0 by omega) (show 0 ≤ 0 by omega) dX11_house_43
  have h := h.2 c4
  refine lv_iconst (v := (0 : Int32)) hx hb dX11_house_14 (by decide) ?_
  exact hret H locs ls 15 _ _ _ _ _ hw h rfl (show 0 ≤ 0 by omega) (show 0 ≤ 0 by omega) dX11_house_15
def wp_X11_knock (μ : TMem)  (Q : Int32 → TMem → Prop) : Prop :=
  Q ((tms (tms μ 0 7 (0 : Int32)) 0 6 (((tms μ 0 7 (0 : Int32)) 0 6) + (1 : Int32))) 0 6) (tms (tms μ 0 7 (0 : Int32)) 0 6 (((tms μ 0 7 (0 : Int32)) 0 6) + (1 : Int32)))
set_option maxHeartbeats 4000000 in
set_option maxRecDepth 100000 in
theorem c_X11_knock {l : Launch} {D : va_G} {ad : Nat → Nat} {cI cL : ClassId}  (μ : TMem) (sz : Nat)   {Q : Int32 → TMem → Prop} (h : wp_X11_knock μ Q) : MMi l yX11_knock (.code yX11_knock cX11_knock 1 (Option.some Jvm.ClassFile.FieldType.int)) 0 0 0 [.ref (ad 0)] D ad cI cL sz μ [] Q := by
  refine M_meti (by decide +kernel) (Nat.le_of_ble_eq_true rfl) ?_
  intro p e s m below meth c Z ls hx hb hml hown ht hK hP0 hI hne hw hret hl
  have hl : lv_has ls 1 [(0, .ref (ad 0))] := hl
  suffices hh : ∀ (H : Heap) (locs : List Loc), MW D (MR ad cI μ) [] (MA ad s.heap.size) s H locs → W p l e (RA 0 0 0) s m #[.ref (ad 0)] below meth c H locs 0 0 Z (F0 m 0 ls []) from hh _ _ hw
  intro H locs hw
  change Q ((tms (tms μ 0 7 (0 : Int32)) 0 6 (((tms μ 0 7 (0 : Int32)) 0 6) + (1 : Int32))) 0 6) (tms (tms μ 0 7 (0 : Int32)) 0 6 (((tms μ 0 7 (0 : Int32)) 0 6) + (1 : Int32))) at h
  refine lv_aload_n hx hb dX11_knock_0 rfl (lv_at hl 0 rfl) ?_
  refine lv_iconst (v := (0 : Int32)) hx hb dX11_knock_1 (by decide) ?_
  refine m_put (i := 7) hx hb ht hown hK hw (by decide) (by decide) (ht _ q_1320) rfl rfl rfl dX11_knock_2 (fun H locs hw => ?_)
  refine lv_aload_n hx hb dX11_knock_5 rfl (lv_at hl 0 rfl) ?_
  refine lv_dup hx hb dX11_knock_6 rfl ?_
  refine m_get (i := 6) hx hb ht hown hK hw (by decide) (ht _ q_1319) rfl rfl dX11_knock_7 ?_
  refine lv_iconst (v := (1 : Int32)) hx hb dX11_knock_10 (by decide) ?_
  refine lv_iadd hx hb dX11_knock_11 ?_
  refine m_put (i := 6) hx hb ht hown hK hw (by decide) (by decide) (ht _ q_1319) rfl rfl rfl dX11_knock_12 (fun H locs hw => ?_)
  refine lv_aload_n hx hb dX11_knock_15 rfl (lv_at hl 0 rfl) ?_
  refine m_get (i := 6) hx hb ht hown hK hw (by decide) (ht _ q_1319) rfl rfl dX11_knock_16 ?_
  exact hret H locs ls 19 _ _ _ _ _ hw h rfl (show 0 ≤ 0 by omega) (show 0 ≤ 0 by omega) dX11_knock_19
def wp_X11_isSound (μ : TMem)  (Q : Int32 → TMem → Prop) : Prop :=
  Q (1 : Int32) (tms μ 0 7 (0 : Int32))
set_option maxHeartbeats 4000000 in
set_option maxRecDepth 100000 in
theorem c_X11_isSound {l : Launch} {D : va_G} {ad : Nat → Nat} {cI cL : ClassId}  (μ : TMem) (sz : Nat)   {Q : Int32 → TMem → Prop} (h : wp_X11_isSound μ Q) : MMi l yX11_isSound (.code yX11_isSound cX11_isSound 1 (Option.some Jvm.ClassFile.FieldType.boolean)) 0 0 0 [.ref (ad 0)] D ad cI cL sz μ [] Q := by
  refine M_meti (by decide +kernel) (Nat.le_of_ble_eq_true rfl) ?_
  intro p e s m below meth c Z ls hx hb hml hown ht hK hP0 hI hne hw hret hl
  have hl : lv_has ls 1 [(0, .ref (ad 0))] := hl
  suffices hh : ∀ (H : Heap) (locs : List Loc), MW D (MR ad cI μ) [] (MA ad s.heap.size) s H locs → W p l e (RA 0 0 0) s m #[.ref (ad 0)] below meth c H locs 0 0 Z (F0 m 0 ls []) from hh _ _ hw
  intro H locs hw
  change Q (1 : Int32) (tms μ 0 7 (0 : Int32)) at h
  refine lv_aload_n hx hb dX11_isSound_0 rfl (lv_at hl 0 rfl) ?_
  refine lv_iconst (v := (0 : Int32)) hx hb dX11_isSound_1 (by decide) ?_
  refine m_put (i := 7) hx hb ht hown hK hw (by decide) (by decide) (ht _ q_1320) rfl rfl rfl dX11_isSound_2 (fun H locs hw => ?_)
  refine lv_iconst (v := (1 : Int32)) hx hb dX11_isSound_5 (by decide) ?_
  exact hret H locs ls 6 _ _ _ _ _ hw h rfl (show 0 ≤ 0 by omega) (show 0 ≤ 0 by omega) dX11_isSound_6
def wpl_X11_digest_14 (v8 : Int32) (K41 : Int64 → TMem → Prop) : Nat → Int32 → Int64 → TMem → Prop
  | 0, _, _, _ => False
  | n + 1, v7, v9, μ10 =>
    ((5 : Int32) ≤ v7 → (K41 v9 μ10)) ∧ (¬ (5 : Int32) ≤ v7 → (wp_X11_tell μ10 v8 v7 (fun (r13 : Int32) (μ12 : TMem) => wpl_X11_digest_14 v8 K41 n (v7 + (1 : Int32)) ((v9 * (31 : Int64)) + (r13.toInt64)) μ12)))
def wpl_X11_digest_44 (μ16 : TMem) (v19 : Int32) (K85 : Int64 → Prop) : Nat → Int32 → Int64 → Prop
  | 0, _, _ => False
  | n + 1, v18, v20 =>
    vp_in v19 (ml 1) ∧ ((((μ16 1 v19.toNatClampNeg) * (3 : Int32)) ≤ v18 → (K85 v20)) ∧ (¬ ((μ16 1 v19.toNatClampNeg) * (3 : Int32)) ≤ v18 → (wp_X11_key v19 (0 : Int32) (0 : Int32) (fun (r23 : Int32) => vp_in (r23 + v18) (ml 4) ∧ (wpl_X11_digest_44 μ16 v19 K85 n (v18 + (1 : Int32)) ((v20 * (31 : Int64)) + ((μ16 4 (r23 + v18).toNatClampNeg).toInt64)))))))
def wpl_X11_digest_6 (K91 : Int64 → TMem → Prop) : Nat → Int32 → Int64 → TMem → Prop
  | 0, _, _, _ => False
  | n + 1, v2, v3, μ4 =>
    ((4 : Int32) ≤ v2 → (K91 v3 μ4)) ∧ (¬ (4 : Int32) ≤ v2 → (∃ n5x, wpl_X11_digest_14 v2 (fun (u15 : Int64) (μ16 : TMem) => ∃ n16x, wpl_X11_digest_44 μ16 v2 (fun (u26 : Int64) => wpl_X11_digest_6 K91 n (v2 + (1 : Int32)) u26 μ16) n16x (0 : Int32) u15) n5x (0 : Int32) v3 μ4))
def wp_X11_digest (μ : TMem)  (Q : Int64 → TMem → Prop) : Prop :=
  ∃ n0x, wpl_X11_digest_6 (fun (u28 : Int64) (μ29 : TMem) => Q ((((((((u28 * (31 : Int64)) + (((tms μ29 0 7 (0 : Int32)) 0 4).toInt64)) * (31 : Int64)) + (((tms μ29 0 7 (0 : Int32)) 0 5).toInt64)) * (31 : Int64)) + (((tms μ29 0 7 (0 : Int32)) 0 6).toInt64)) * (31 : Int64)) + (1 : Int64)) (tms μ29 0 7 (0 : Int32))) n0x (0 : Int32) (8025 : Int64) μ
set_option maxHeartbeats 4000000 in
set_option maxRecDepth 100000 in
theorem c_X11_digest {l : Launch} {D : va_G} {ad : Nat → Nat} {cI cL : ClassId}  (μ : TMem) (sz : Nat)   {Q : Int64 → TMem → Prop} (h : wp_X11_digest μ Q) : MMl l yX11_digest (.code yX11_digest cX11_digest 5 (Option.some Jvm.ClassFile.FieldType.long)) 3 0 0 [.ref (ad 0)] D ad cI cL sz μ [] Q := by
  refine M_metl (by decide +kernel) (Nat.le_of_ble_eq_true rfl) ?_
  intro p e s m below meth c Z ls hx hb hml hown ht hK hP0 hI hne hw hret hl
  have hl : lv_has ls 5 [(0, .ref (ad 0))] := hl
  suffices hh : ∀ (H : Heap) (locs : List Loc), MW D (MR ad cI μ) [] (MA ad s.heap.size) s H locs → W p l e (RA 3 0 0) s m #[.ref (ad 0)] below meth c H locs 0 0 Z (F0 m 0 ls []) from hh _ _ hw
  intro H locs hw
  change ∃ n0x, wpl_X11_digest_6 (fun (u28 : Int64) (μ29 : TMem) => Q ((((((((u28 * (31 : Int64)) + (((tms μ29 0 7 (0 : Int32)) 0 4).toInt64)) * (31 : Int64)) + (((tms μ29 0 7 (0 : Int32)) 0 5).toInt64)) * (31 : Int64)) + (((tms μ29 0 7 (0 : Int32)) 0 6).toInt64)) * (31 : Int64)) + (1 : Int64)) (tms μ29 0 7 (0 : Int32))) n0x (0 : Int32) (8025 : Int64) μ at h
  refine lv_ldc2 (v := (8025 : Int64)) hx hb hown (ht _ q_1600) dX11_digest_0 ?_
  refine lv_lstore_n (lv' := [(1, .long (8025 : Int64)), (0, .ref (ad 0))]) hx hb dX11_digest_3 rfl hl (by decide) rfl (fun ls hl => ?_)
  refine lv_iconst (v := (0 : Int32)) hx hb dX11_digest_4 (by decide) ?_
  refine lv_istore_n (lv' := [(3, .int (0 : Int32)), (1, .long (8025 : Int64)), (0, .ref (ad 0))]) hx hb dX11_digest_5 rfl hl (by decide) rfl (fun ls hl => ?_)
  obtain ⟨n27, h⟩ := h
  have L0 : ∀ (K91 : Int64 → TMem → Prop), (∀ (v3 : Int64) (μ4 : TMem), ∀ (H : Heap) (locs : List Loc) (ls : Array Slot), MW D (MR ad cI μ4) [] (MA ad s.heap.size) s H locs → lv_has ls 5 [(1, .long v3), (0, .ref (ad 0))] → K91 v3 μ4 → W p l e (RA 3 0 0) s m #[.ref (ad 0)] below meth c H locs 0 0 Z (F0 m 91 ls [])) → ∀ (n : Nat), ∀ (v2 : Int32) (v3 : Int64) (μ4 : TMem), ∀ (H : Heap) (locs : List Loc) (ls : Array Slot), MW D (MR ad cI μ4) [] (MA ad s.heap.size) s H locs → lv_has ls 5 [(3, .int v2), (1, .long v3), (0, .ref (ad 0))] → wpl_X11_digest_6 K91 n v2 v3 μ4 → W p l e (RA 3 0 0) s m #[.ref (ad 0)] below meth c H locs 0 0 Z (F0 m 6 ls []) := by
    intro K91 hK91
    intro n
    induction n with
    | zero => intro v2 v3 μ4 H locs ls hw hl h; exact False.elim h
    | succ n ih0 =>
      intro v2 v3 μ4 H locs ls hw hl h
      change ((4 : Int32) ≤ v2 → (K91 v3 μ4)) ∧ (¬ (4 : Int32) ≤ v2 → (∃ n5x, wpl_X11_digest_14 v2 (fun (u15 : Int64) (μ16 : TMem) => ∃ n16x, wpl_X11_digest_44 μ16 v2 (fun (u26 : Int64) => wpl_X11_digest_6 K91 n (v2 + (1 : Int32)) u26 μ16) n16x (0 : Int32) u15) n5x (0 : Int32) v3 μ4)) at h
      refine lv_iload_n hx hb dX11_digest_6 rfl (lv_at hl 0 rfl) ?_
      refine lv_iconst (v := (4 : Int32)) hx hb dX11_digest_7 (by decide) ?_
      refine lv_icmp_ge (tgt := 91) hx hb dX11_digest_8 (by decide) (fun c5 => ?_) (fun c5 => ?_)
      · have h := h.1 c5
        exact hK91 v3 μ4 H locs ls hw (lv_sub hl [1, 2] rfl) h
      have h := h.2 c5
      refine lv_iconst (v := (0 : Int32)) hx hb dX11_digest_11 (by decide) ?_
      refine lv_istore (lv' := [(4, .int (0 : Int32)), (3, .int v2), (1, .long v3), (0, .ref (ad 0))]) hx hb dX11_digest_12 hl (by decide) rfl (fun ls hl => ?_)
      obtain ⟨n14, h⟩ := h
      have L5 : ∀ (v8 : Int32) (K41 : Int64 → TMem → Prop), (∀ (v9 : Int64) (μ10 : TMem), ∀ (H : Heap) (locs : List Loc) (ls : Array Slot), MW D (MR ad cI μ10) [] (MA ad s.heap.size) s H locs → lv_has ls 5 [(3, .int v8), (1, .long v9), (0, .ref (ad 0))] → K41 v9 μ10 → W p l e (RA 3 0 0) s m #[.ref (ad 0)] below meth c H locs 0 0 Z (F0 m 41 ls [])) → ∀ (n : Nat), ∀ (v7 : Int32) (v9 : Int64) (μ10 : TMem), ∀ (H : Heap) (locs : List Loc) (ls : Array Slot), MW D (MR ad cI μ10) [] (MA ad s.heap.size) s H locs → lv_has ls 5 [(4, .int v7), (3, .int v8), (1, .long v9), (0, .ref (ad 0))] → wpl_X11_digest_14 v8 K41 n v7 v9 μ10 → W p l e (RA 3 0 0) s m #[.ref (ad 0)] below meth c H locs 0 0 Z (F0 m 14 ls []) := by
        intro v8 K41 hK41
        intro n
        induction n with
        | zero => intro v7 v9 μ10 H locs ls hw hl h; exact False.elim h
        | succ n ih5 =>
          intro v7 v9 μ10 H locs ls hw hl h
          change ((5 : Int32) ≤ v7 → (K41 v9 μ10)) ∧ (¬ (5 : Int32) ≤ v7 → (wp_X11_tell μ10 v8 v7 (fun (r13 : Int32) (μ12 : TMem) => wpl_X11_digest_14 v8 K41 n (v7 + (1 : Int32)) ((v9 * (31 : Int64)) + (r13.toInt64)) μ12))) at h
          refine lv_iload hx hb dX11_digest_14 (lv_at hl 0 rfl) ?_
          refine lv_iconst (v := (5 : Int32)) hx hb dX11_digest_16 (by decide) ?_
          refine lv_icmp_ge (tgt := 41) hx hb dX11_digest_17 (by decide) (fun c11 => ?_) (fun c11 => ?_)
          · have h := h.1 c11
            exact hK41 v9 μ10 H locs ls hw (lv_sub hl [1, 2, 3] rfl) h
          have h := h.2 c11
          refine lv_lload_n hx hb dX11_digest_20 rfl (lv_at hl 2 rfl) ?_
          refine lv_ldc2 (v := (31 : Int64)) hx hb hown (ht _ q_1601) dX11_digest_21 ?_
          refine lv_lmul hx hb dX11_digest_24 ?_
          refine lv_aload_n hx hb dX11_digest_25 rfl (lv_at hl 3 rfl) ?_
          refine lv_iload_n hx hb dX11_digest_26 rfl (lv_at hl 1 rfl) ?_
          refine lv_iload hx hb dX11_digest_27 (lv_at hl 0 rfl) ?_
          refine M_calli hw (MA.up hw.2.2.1.1) (va_runV (own := "LeastreaderModel") (As := [.int v8, .int v7]) (rest := [.long (v9 * (31 : Int64))]) ⟨hx, hb, hml, hown, ht⟩ (c_X11_tell μ10 H.size v8 v7 h) (cwV 2 ht (G_V q_1602 q_1495 q_1496 q_56 q_1497) rfl rfl rfl ⟨rfl, hd_114⟩ ⟨Nat.le_of_ble_eq_true rfl, Nat.le_of_ble_eq_true rfl⟩) ⟨MB.blind, M_recv hK hw, MB.pre hK hI hw va_P0 ne0⟩ rfl rfl hl.1 rfl (lv_room (Nat.le_of_ble_eq_true rfl)) dX11_digest_29 ⟨show 0 + 0 ≤ 0 by omega, show 0 + 0 ≤ 0 by omega⟩) (fun r13 μ12 H locs h hw => ?_)
          refine lv_i2l hx hb dX11_digest_32 rfl ?_
          refine lv_ladd hx hb dX11_digest_33 ?_
          refine lv_lstore_n (lv' := [(1, .long ((v9 * (31 : Int64)) + (r13.toInt64))), (4, .int v7), (3, .int v8), (0, .ref (ad 0))]) hx hb dX11_digest_34 rfl hl (by decide) rfl (fun ls hl => ?_)
          refine lv_iinc (v := (v7 + (1 : Int32))) (lv' := [(4, .int (v7 + (1 : Int32))), (1, .long ((v9 * (31 : Int64)) + (r13.toInt64))), (3, .int v8), (0, .ref (ad 0))]) hx hb dX11_digest_35 hl (k := 1) rfl rfl (by decide) rfl (fun ls hl => ?_)
          refine lv_goto (tgt := 14) hx hb dX11_digest_38 (by decide) ?_
          exact ih5 (v7 + (1 : Int32)) ((v9 * (31 : Int64)) + (r13.toInt64)) μ12 H locs ls hw (lv_sub hl [0, 2, 1, 3] rfl) h
      refine L5 v2 _ ?_ n14 (0 : Int32) v3 μ4 H locs ls hw (lv_sub hl [0, 1, 2, 3] rfl) h
      intro u15 μ16 H locs ls hw hl h
      refine lv_iconst (v := (0 : Int32)) hx hb dX11_digest_41 (by decide) ?_
      refine lv_istore (lv' := [(4, .int (0 : Int32)), (3, .int v2), (1, .long u15), (0, .ref (ad 0))]) hx hb dX11_digest_42 hl (by decide) rfl (fun ls hl => ?_)
      obtain ⟨n25, h⟩ := h
      have L16 : ∀ (v19 : Int32) (K85 : Int64 → Prop), (∀ (v20 : Int64), ∀ (H : Heap) (locs : List Loc) (ls : Array Slot), MW D (MR ad cI μ16) [] (MA ad s.heap.size) s H locs → lv_has ls 5 [(3, .int v19), (1, .long v20), (0, .ref (ad 0))] → K85 v20 → W p l e (RA 3 0 0) s m #[.ref (ad 0)] below meth c H locs 0 0 Z (F0 m 85 ls [])) → ∀ (n : Nat), ∀ (v18 : Int32) (v20 : Int64), ∀ (H : Heap) (locs : List Loc) (ls : Array Slot), MW D (MR ad cI μ16) [] (MA ad s.heap.size) s H locs → lv_has ls 5 [(4, .int v18), (3, .int v19), (1, .long v20), (0, .ref (ad 0))] → wpl_X11_digest_44 μ16 v19 K85 n v18 v20 → W p l e (RA 3 0 0) s m #[.ref (ad 0)] below meth c H locs 0 0 Z (F0 m 44 ls []) := by
        intro v19 K85 hK85
        intro n
        induction n with
        | zero => intro v18 v20 H locs ls hw hl h; exact False.elim h
        | succ n ih16 =>
          intro v18 v20 H locs ls hw hl h
          change vp_in v19 (ml 1) ∧ ((((μ16 1 v19.toNatClampNeg) * (3 : Int32)) ≤ v18 → (K85 v20)) ∧ (¬ ((μ16 1 v19.toNatClampNeg) * (3 : Int32)) ≤ v18 → (wp_X11_key v19 (0 : Int32) (0 : Int32) (fun (r23 : Int32) => vp_in (r23 + v18) (ml 4) ∧ (wpl_X11_digest_44 μ16 v19 K85 n (v18 + (1 : Int32)) ((v20 * (31 : Int64)) + ((μ16 4 (r23 + v18).toNatClampNeg).toInt64))))))) at h
          refine lv_iload hx hb dX11_digest_44 (lv_at hl 0 rfl) ?_
          refine lv_aload_n hx hb dX11_digest_46 rfl (lv_at hl 3 rfl) ?_
          refine m_get (i := 0) hx hb ht hown hK hw (by decide) (ht _ q_1313) rfl rfl dX11_digest_47 ?_
          refine lv_iload_n hx hb dX11_digest_50 rfl (lv_at hl 1 rfl) ?_
          obtain ⟨z21, h⟩ := h
          refine m_iald hx hb hK hw (by decide) z21 dX11_digest_51 ?_
          refine lv_iconst (v := (3 : Int32)) hx hb dX11_digest_52 (by decide) ?_
          refine lv_imul hx hb dX11_digest_53 ?_
          refine lv_icmp_ge (tgt := 85) hx hb dX11_digest_54 (by decide) (fun c22 => ?_) (fun c22 => ?_)
          · have h := h.1 c22
            exact hK85 v20 H locs ls hw (lv_sub hl [1, 2, 3] rfl) h
          have h := h.2 c22
          refine lv_lload_n hx hb dX11_digest_57 rfl (lv_at hl 2 rfl) ?_
          refine lv_ldc2 (v := (31 : Int64)) hx hb hown (ht _ q_1601) dX11_digest_58 ?_
          refine lv_lmul hx hb dX11_digest_61 ?_
          refine lv_aload_n hx hb dX11_digest_62 rfl (lv_at hl 3 rfl) ?_
          refine m_get (i := 3) hx hb ht hown hK hw (by decide) (ht _ q_1316) rfl rfl dX11_digest_63 ?_
          refine lv_iload_n hx hb dX11_digest_66 rfl (lv_at hl 1 rfl) ?_
          refine lv_iconst (v := (0 : Int32)) hx hb dX11_digest_67 (by decide) ?_
          refine lv_iconst (v := (0 : Int32)) hx hb dX11_digest_68 (by decide) ?_
          refine P_calli (va_runS (own := "LeastreaderModel") (As := [.int v19, .int (0 : Int32), .int (0 : Int32)]) (rest := [.ref (ad 4), .long (v20 * (31 : Int64))]) ⟨hx, hb, hml, hown, ht⟩ (c_X11_key v19 (0 : Int32) (0 : Int32) h) (va_cwS 3 ht (G_S q_1356 q_1357 q_56 q_1358) rfl rfl rfl hd_79 ⟨Nat.le_of_ble_eq_true rfl, Nat.le_of_ble_eq_true rfl⟩) ⟨PM_blind, PM_pre⟩ rfl rfl hl.1 rfl (lv_room (Nat.le_of_ble_eq_true rfl)) dX11_digest_69 ⟨show 0 + 0 ≤ 0 by omega, show 0 + 0 ≤ 0 by omega⟩) (fun r23 h => ?_)
          refine lv_iload hx hb dX11_digest_72 (lv_at hl 0 rfl) ?_
          refine lv_iadd hx hb dX11_digest_74 ?_
          obtain ⟨z24, h⟩ := h
          refine m_iald hx hb hK hw (by decide) z24 dX11_digest_75 ?_
          refine lv_i2l hx hb dX11_digest_76 rfl ?_
          refine lv_ladd hx hb dX11_digest_77 ?_
          refine lv_lstore_n (lv' := [(1, .long ((v20 * (31 : Int64)) + ((μ16 4 (r23 + v18).toNatClampNeg).toInt64))), (4, .int v18), (3, .int v19), (0, .ref (ad 0))]) hx hb dX11_digest_78 rfl hl (by decide) rfl (fun ls hl => ?_)
          refine lv_iinc (v := (v18 + (1 : Int32))) (lv' := [(4, .int (v18 + (1 : Int32))), (1, .long ((v20 * (31 : Int64)) + ((μ16 4 (r23 + v18).toNatClampNeg).toInt64))), (3, .int v19), (0, .ref (ad 0))]) hx hb dX11_digest_79 hl (k := 1) rfl rfl (by decide) rfl (fun ls hl => ?_)
          refine lv_goto (tgt := 44) hx hb dX11_digest_82 (by decide) ?_
          exact ih16 (v18 + (1 : Int32)) ((v20 * (31 : Int64)) + ((μ16 4 (r23 + v18).toNatClampNeg).toInt64)) H locs ls hw (lv_sub hl [0, 2, 1, 3] rfl) h
      refine L16 v2 _ ?_ n25 (0 : Int32) u15 H locs ls hw (lv_sub hl [0, 1, 2, 3] rfl) h
      intro u26 H locs ls hw hl h
      refine lv_iinc (v := (v2 + (1 : Int32))) (lv' := [(3, .int (v2 + (1 : Int32))), (1, .long u26), (0, .ref (ad 0))]) hx hb dX11_digest_85 hl (k := 0) rfl rfl (by decide) rfl (fun ls hl => ?_)
      refine lv_goto (tgt := 6) hx hb dX11_digest_88 (by decide) ?_
      exact ih0 (v2 + (1 : Int32)) u26 μ16 H locs ls hw (lv_sub hl [0, 1, 2] rfl) h
  refine L0 _ ?_ n27 (0 : Int32) (8025 : Int64) μ H locs ls hw (lv_sub hl [0, 1, 2] rfl) h
  intro u28 μ29 H locs ls hw hl h
  refine lv_aload_n hx hb dX11_digest_91 rfl (lv_at hl 1 rfl) ?_
  refine lv_iconst (v := (0 : Int32)) hx hb dX11_digest_92 (by decide) ?_
  refine m_put (i := 7) hx hb ht hown hK hw (by decide) (by decide) (ht _ q_1320) rfl rfl rfl dX11_digest_93 (fun H locs hw => ?_)
  refine lv_lload_n hx hb dX11_digest_96 rfl (lv_at hl 0 rfl) ?_
  refine lv_ldc2 (v := (31 : Int64)) hx hb hown (ht _ q_1601) dX11_digest_97 ?_
  refine lv_lmul hx hb dX11_digest_100 ?_
  refine lv_aload_n hx hb dX11_digest_101 rfl (lv_at hl 1 rfl) ?_
  refine m_get (i := 4) hx hb ht hown hK hw (by decide) (ht _ q_1317) rfl rfl dX11_digest_102 ?_
  refine lv_i2l hx hb dX11_digest_105 rfl ?_
  refine lv_ladd hx hb dX11_digest_106 ?_
  refine lv_ldc2 (v := (31 : Int64)) hx hb hown (ht _ q_1601) dX11_digest_107 ?_
  refine lv_lmul hx hb dX11_digest_110 ?_
  refine lv_aload_n hx hb dX11_digest_111 rfl (lv_at hl 1 rfl) ?_
  refine m_get (i := 5) hx hb ht hown hK hw (by decide) (ht _ q_1318) rfl rfl dX11_digest_112 ?_
  refine lv_i2l hx hb dX11_digest_115 rfl ?_
  refine lv_ladd hx hb dX11_digest_116 ?_
  refine lv_ldc2 (v := (31 : Int64)) hx hb hown (ht _ q_1601) dX11_digest_117 ?_
  refine lv_lmul hx hb dX11_digest_120 ?_
  refine lv_aload_n hx hb dX11_digest_121 rfl (lv_at hl 1 rfl) ?_
  refine m_get (i := 6) hx hb ht hown hK hw (by decide) (ht _ q_1319) rfl rfl dX11_digest_122 ?_
  refine lv_i2l hx hb dX11_digest_125 rfl ?_
  refine lv_ladd hx hb dX11_digest_126 ?_
  refine lv_lstore_n (lv' := [(1, .long ((((((u28 * (31 : Int64)) + (((tms μ29 0 7 (0 : Int32)) 0 4).toInt64)) * (31 : Int64)) + (((tms μ29 0 7 (0 : Int32)) 0 5).toInt64)) * (31 : Int64)) + (((tms μ29 0 7 (0 : Int32)) 0 6).toInt64))), (0, .ref (ad 0))]) hx hb dX11_digest_127 rfl hl (by decide) rfl (fun ls hl => ?_)
  refine lv_lload_n hx hb dX11_digest_128 rfl (lv_at hl 0 rfl) ?_
  refine lv_ldc2 (v := (31 : Int64)) hx hb hown (ht _ q_1601) dX11_digest_129 ?_
  refine lv_lmul hx hb dX11_digest_132 ?_
  refine lv_lconst (v := (1 : Int64)) hx hb dX11_digest_133 (by decide) ?_
  refine lv_ladd hx hb dX11_digest_134 ?_
  exact hret H locs ls 135 _ _ _ _ _ hw h (show 0 ≤ 0 by omega) (show 0 ≤ 0 by omega) dX11_digest_135
end
