def wp_X11_thrown (μ : TMem)  (Q : Int32 → Prop) : Prop :=
  Q (μ 0 7)
set_option maxHeartbeats 4000000 in
set_option maxRecDepth 100000 in
theorem c_X11_thrown {l : Launch} {D : va_G} {ad : Nat → Nat} {cI cL : ClassId}  (μ : TMem) (sz : Nat)   {Q : Int32 → Prop} (h : wp_X11_thrown μ Q) : MMi l yX11_thrown (.code yX11_thrown cX11_thrown 1 (Option.some Jvm.ClassFile.FieldType.int)) 0 0 0 [.ref (ad 0)] D ad cI cL sz μ [] (fun r μ1 => μ1 = μ ∧ Q r) := by
  refine M_meti (by decide +kernel) (Nat.le_of_ble_eq_true rfl) ?_
  intro p e s m below meth c Z ls hx hb hml hown ht hK hP0 hI hne hw hret hl
  have hl : lv_has ls 1 [(0, .ref (ad 0))] := hl
  suffices hh : ∀ (H : Heap) (locs : List Loc), MW D (MR ad cI μ) [] (MA ad s.heap.size) s H locs → W p l e (RA 0 0 0) s m #[.ref (ad 0)] below meth c H locs 0 0 Z (F0 m 0 ls []) from hh _ _ hw
  intro H locs hw
  change Q (μ 0 7) at h
  refine lv_aload_n hx hb dX11_thrown_0 rfl (lv_at hl 0 rfl) ?_
  refine m_get (i := 7) hx hb ht hown hK hw (by decide) (ht _ q_1320) rfl rfl dX11_thrown_1 ?_
  exact hret H locs ls 4 _ _ _ _ _ hw ⟨rfl, h⟩ rfl (show 0 ≤ 0 by omega) (show 0 ≤ 0 by omega) dX11_thrown_4
def wp_X11_isIn (a0 : Int32) (a1 : Int32) (a2 : Int32) (Q : Int32 → Prop) : Prop :=
  (a0 < a1 → (Q (0 : Int32))) ∧ (¬ a0 < a1 → ((a2 < a0 → (Q (0 : Int32))) ∧ (¬ a2 < a0 → (Q (1 : Int32)))))
set_option maxHeartbeats 4000000 in
set_option maxRecDepth 100000 in
theorem c_X11_isIn {l : Launch} (a0 : Int32) (a1 : Int32) (a2 : Int32) {Q : Int32 → Prop} (h : wp_X11_isIn a0 a1 a2 Q) : PMi l yX11_isIn (.code yX11_isIn cX11_isIn 3 (Option.some Jvm.ClassFile.FieldType.boolean)) 0 [.int a0, .int a1, .int a2] Q := by
  refine P_meti (by decide +kernel) (Nat.le_of_ble_eq_true rfl) ?_
  intro p e s m below meth c Z ls hx hb hml hown ht hret hl
  have hl : lv_has ls 3 [(0, .int a0), (1, .int a1), (2, .int a2)] := hl
  change (a0 < a1 → (Q (0 : Int32))) ∧ (¬ a0 < a1 → ((a2 < a0 → (Q (0 : Int32))) ∧ (¬ a2 < a0 → (Q (1 : Int32))))) at h
  refine lv_iload_n hx hb dX11_isIn_0 rfl (lv_at hl 0 rfl) ?_
  refine lv_iload_n hx hb dX11_isIn_1 rfl (lv_at hl 1 rfl) ?_
  refine lv_icmp_lt (tgt := 14) hx hb dX11_isIn_2 (by decide) (fun c1 => ?_) (fun c1 => ?_)
  · have h := h.1 c1
    refine lv_iconst (v := (0 : Int32)) hx hb dX11_isIn_14 (by decide) ?_
    exact hret ls 15 _ h rfl dX11_isIn_15
  have h := h.2 c1
  refine lv_iload_n hx hb dX11_isIn_5 rfl (lv_at hl 0 rfl) ?_
  refine lv_iload_n hx hb dX11_isIn_6 rfl (lv_at hl 2 rfl) ?_
  refine lv_icmp_gt (tgt := 14) hx hb dX11_isIn_7 (by decide) (fun c2 => ?_) (fun c2 => ?_)
  · have h := h.1 c2
    refine lv_iconst (v := (0 : Int32)) hx hb dX11_isIn_14 (by decide) ?_
    exact hret ls 15 _ h rfl dX11_isIn_15
  have h := h.2 c2
  refine lv_iconst (v := (1 : Int32)) hx hb dX11_isIn_10 (by decide) ?_
  refine lv_goto (tgt := 15) hx hb dX11_isIn_11 (by decide) ?_
  exact hret ls 15 _ h rfl dX11_isIn_15
def wp_X11_isOne (a0 : Int32) (Q : Int32 → Prop) : Prop :=
  wp_X11_isIn a0 (0 : Int32) (3 : Int32) (fun (r1 : Int32) => isB r1 ∧ Q r1)
set_option maxHeartbeats 4000000 in
set_option maxRecDepth 100000 in
theorem c_X11_isOne {l : Launch} (a0 : Int32) {Q : Int32 → Prop} (h : wp_X11_isOne a0 Q) : PMi l yX11_isOne (.code yX11_isOne cX11_isOne 1 (Option.some Jvm.ClassFile.FieldType.boolean)) 1 [.int a0] Q := by
  refine P_meti (by decide +kernel) (Nat.le_of_ble_eq_true rfl) ?_
  intro p e s m below meth c Z ls hx hb hml hown ht hret hl
  have hl : lv_has ls 1 [(0, .int a0)] := hl
  change wp_X11_isIn a0 (0 : Int32) (3 : Int32) (fun (r1 : Int32) => isB r1 ∧ Q r1) at h
  refine lv_iload_n hx hb dX11_isOne_0 rfl (lv_at hl 0 rfl) ?_
  refine lv_iconst (v := (0 : Int32)) hx hb dX11_isOne_1 (by decide) ?_
  refine lv_iconst (v := (3 : Int32)) hx hb dX11_isOne_2 (by decide) ?_
  refine P_calli (va_runS (own := "LeastreaderModel") (As := [.int a0, .int (0 : Int32), .int (3 : Int32)]) (rest := []) ⟨hx, hb, hml, hown, ht⟩ (c_X11_isIn a0 (0 : Int32) (3 : Int32) h) (va_cwS 3 ht (G_S q_1349 q_1350 q_56 q_1351) rfl rfl rfl hd_78 ⟨Nat.le_of_ble_eq_true rfl, Nat.le_of_ble_eq_true rfl⟩) ⟨PM_blind, PM_pre⟩ rfl rfl hl.1 rfl (lv_room (Nat.le_of_ble_eq_true rfl)) dX11_isOne_3 ⟨Nat.le_of_ble_eq_true rfl, Nat.le_of_ble_eq_true rfl⟩) (fun r1 h => ?_)
  obtain ⟨z2, h⟩ := h
  exact hret ls 6 _ h (isB_n z2) dX11_isOne_6
def wp_X11_isThrown (μ : TMem) (a1 : Int32) (a2 : Int32) (Q : Int32 → TMem → Prop) : Prop :=
  ∀ J1 : Int32 → Prop, (∀ (j2 : Int32), ((((tms μ 0 7 j2) 0 7) ≤ 0 → (Q (0 : Int32) (tms μ 0 7 j2))) ∧ (¬ ((tms μ 0 7 j2) 0 7) ≤ 0 → (Q (1 : Int32) (tms μ 0 7 j2)))) → J1 j2) → ((¬ a1 = 0 → ((¬ a2 = 0 → (J1 (0 : Int32))) ∧ (a2 = 0 → (J1 (2 : Int32))))) ∧ (a1 = 0 → (J1 (1 : Int32))))
set_option maxHeartbeats 4000000 in
set_option maxRecDepth 100000 in
theorem c_X11_isThrown {l : Launch} {D : va_G} {ad : Nat → Nat} {cI cL : ClassId}  (μ : TMem) (sz : Nat) (a1 : Int32) (a2 : Int32)  {Q : Int32 → TMem → Prop} (h : wp_X11_isThrown μ a1 a2 Q) : MMi l yX11_isThrown (.code yX11_isThrown cX11_isThrown 3 (Option.some Jvm.ClassFile.FieldType.boolean)) 0 0 0 [.ref (ad 0), .int a1, .int a2] D ad cI cL sz μ [] Q := by
  refine M_meti (by decide +kernel) (Nat.le_of_ble_eq_true rfl) ?_
  intro p e s m below meth c Z ls hx hb hml hown ht hK hP0 hI hne hw hret hl
  have hl : lv_has ls 3 [(0, .ref (ad 0)), (1, .int a1), (2, .int a2)] := hl
  suffices hh : ∀ (H : Heap) (locs : List Loc), MW D (MR ad cI μ) [] (MA ad s.heap.size) s H locs → W p l e (RA 0 0 0) s m #[.ref (ad 0), .int a1, .int a2] below meth c H locs 0 0 Z (F0 m 0 ls []) from hh _ _ hw
  intro H locs hw
  change ∀ J1 : Int32 → Prop, (∀ (j2 : Int32), ((((tms μ 0 7 j2) 0 7) ≤ 0 → (Q (0 : Int32) (tms μ 0 7 j2))) ∧ (¬ ((tms μ 0 7 j2) 0 7) ≤ 0 → (Q (1 : Int32) (tms μ 0 7 j2)))) → J1 j2) → ((¬ a1 = 0 → ((¬ a2 = 0 → (J1 (0 : Int32))) ∧ (a2 = 0 → (J1 (2 : Int32))))) ∧ (a1 = 0 → (J1 (1 : Int32)))) at h
  refine lv_aload_n hx hb dX11_isThrown_0 rfl (lv_at hl 0 rfl) ?_
  refine lv_iload_n hx hb dX11_isThrown_1 rfl (lv_at hl 1 rfl) ?_
  have h := h (fun (j2 : Int32) => ∀ (H : Heap) (locs : List Loc) (ls : Array Slot), MW D (MR ad cI μ) [] (MA ad s.heap.size) s H locs → lv_has ls 3 [(0, .ref (ad 0))] → W p l e (RA 0 0 0) s m #[.ref (ad 0), .int a1, .int a2] below meth c H locs 0 0 Z (F0 m 18 ls [.int j2, .ref (ad 0)])) (fun j2 h H locs ls hw hl => by
    refine m_put (i := 7) hx hb ht hown hK hw (by decide) (by decide) (ht _ q_1320) rfl rfl rfl dX11_isThrown_18 (fun H locs hw => ?_)
    refine lv_aload_n hx hb dX11_isThrown_21 rfl (lv_at hl 0 rfl) ?_
    refine m_get (i := 7) hx hb ht hown hK hw (by decide) (ht _ q_1320) rfl rfl dX11_isThrown_22 ?_
    refine lv_if_le (tgt := 32) hx hb dX11_isThrown_25 (by decide) (fun c3 => ?_) (fun c3 => ?_)
    · have h := h.1 c3
      refine lv_iconst (v := (0 : Int32)) hx hb dX11_isThrown_32 (by decide) ?_
      exact hret H locs ls 33 _ _ _ _ _ hw h rfl (show 0 ≤ 0 by omega) (show 0 ≤ 0 by omega) dX11_isThrown_33
    have h := h.2 c3
    refine lv_iconst (v := (1 : Int32)) hx hb dX11_isThrown_28 (by decide) ?_
    refine lv_goto (tgt := 33) hx hb dX11_isThrown_29 (by decide) ?_
    exact hret H locs ls 33 _ _ _ _ _ hw h rfl (show 0 ≤ 0 by omega) (show 0 ≤ 0 by omega) dX11_isThrown_33)
  refine lv_if_ne (tgt := 9) hx hb dX11_isThrown_2 (by decide) (fun c4 => ?_) (fun c4 => ?_)
  · have h := h.1 c4
    refine lv_iload_n hx hb dX11_isThrown_9 rfl (lv_at hl 2 rfl) ?_
    refine lv_if_ne (tgt := 17) hx hb dX11_isThrown_10 (by decide) (fun c5 => ?_) (fun c5 => ?_)
    · have h := h.1 c5
      refine lv_iconst (v := (0 : Int32)) hx hb dX11_isThrown_17 (by decide) ?_
      exact h H locs ls hw (lv_sub hl [0] rfl)
    have h := h.2 c5
    refine lv_iconst (v := (2 : Int32)) hx hb dX11_isThrown_13 (by decide) ?_
    refine lv_goto (tgt := 18) hx hb dX11_isThrown_14 (by decide) ?_
    exact h H locs ls hw (lv_sub hl [0] rfl)
  have h := h.2 c4
  refine lv_iconst (v := (1 : Int32)) hx hb dX11_isThrown_5 (by decide) ?_
  refine lv_goto (tgt := 18) hx hb dX11_isThrown_6 (by decide) ?_
  exact h H locs ls hw (lv_sub hl [0] rfl)
def wp_X11_isCrowded (μ : TMem) (na1 : Nat) (fa1 : Nat → Int32) (a2 : Int32) (Q : Int32 → TMem → Prop) : Prop :=
  Q (0 : Int32) (tms μ 0 7 (0 : Int32))
set_option maxHeartbeats 4000000 in
set_option maxRecDepth 100000 in
theorem c_X11_isCrowded {l : Launch} {D : va_G} {ad : Nat → Nat} {cI cL : ClassId} (qa1 : Nat) (μ : TMem) (sz : Nat) (na1 : Nat) (fa1 : Nat → Int32) (a2 : Int32)  {Q : Int32 → TMem → Prop} (h : wp_X11_isCrowded μ na1 fa1 a2 Q) : MMi l yX11_isCrowded (.code yX11_isCrowded cX11_isCrowded 3 (Option.some Jvm.ClassFile.FieldType.boolean)) 0 0 0 [.ref (ad 0), .ref qa1, .int a2] D ad cI cL sz μ [eI cI qa1 na1 fa1] Q := by
  refine M_meti (by decide +kernel) (Nat.le_of_ble_eq_true rfl) ?_
  intro p e s m below meth c Z ls hx hb hml hown ht hK hP0 hI hne hw hret hl
  have hl : lv_has ls 3 [(0, .ref (ad 0)), (1, .ref qa1), (2, .int a2)] := hl
  have hL0 := va_Ph hP0
  have hB0 : ¬ MA ad s.heap.size qa1 := fun z => z.elim (fun ⟨k, hk, e⟩ => hne 0 _ rfl k hk e) (fun z => absurd hL0.lt (Nat.not_lt.mpr z))
  suffices hh : ∀ (H : Heap) (locs : List Loc), MW D (MR ad cI μ) [] (MA ad s.heap.size) s H locs → W p l e (RA 0 0 0) s m #[.ref (ad 0), .ref qa1, .int a2] below meth c H locs 0 0 Z (F0 m 0 ls []) from hh _ _ hw
  intro H locs hw
  change Q (0 : Int32) (tms μ 0 7 (0 : Int32)) at h
  refine lv_aload_n hx hb dX11_isCrowded_0 rfl (lv_at hl 0 rfl) ?_
  refine lv_aload_n hx hb dX11_isCrowded_1 rfl (lv_at hl 1 rfl) ?_
  refine lv_ifnonnull (tgt := 9) hx hb dX11_isCrowded_2 (by decide) ?_
  refine lv_iconst (v := (0 : Int32)) hx hb dX11_isCrowded_9 (by decide) ?_
  refine m_put (i := 7) hx hb ht hown hK hw (by decide) (by decide) (ht _ q_1320) rfl rfl rfl dX11_isCrowded_10 (fun H locs hw => ?_)
  refine lv_aload_n hx hb dX11_isCrowded_13 rfl (lv_at hl 1 rfl) ?_
  refine lv_ifnonnull (tgt := 21) hx hb dX11_isCrowded_14 (by decide) ?_
  refine lv_iconst (v := (0 : Int32)) hx hb dX11_isCrowded_21 (by decide) ?_
  exact hret H locs ls 22 _ _ _ _ _ hw h rfl (show 0 ≤ 0 by omega) (show 0 ≤ 0 by omega) dX11_isCrowded_22
def wp_X11_isCrowded_n (μ : TMem) (a2 : Int32) (Q : Int32 → TMem → Prop) : Prop :=
  Q (1 : Int32) (tms μ 0 7 a2)
set_option maxHeartbeats 4000000 in
set_option maxRecDepth 100000 in
theorem c_X11_isCrowded_n {l : Launch} {D : va_G} {ad : Nat → Nat} {cI cL : ClassId}  (μ : TMem) (sz : Nat) (a2 : Int32)  {Q : Int32 → TMem → Prop} (h : wp_X11_isCrowded_n μ a2 Q) : MMi l yX11_isCrowded (.code yX11_isCrowded cX11_isCrowded 3 (Option.some Jvm.ClassFile.FieldType.boolean)) 0 0 0 [.ref (ad 0), .null, .int a2] D ad cI cL sz μ [] Q := by
  refine M_meti (by decide +kernel) (Nat.le_of_ble_eq_true rfl) ?_
  intro p e s m below meth c Z ls hx hb hml hown ht hK hP0 hI hne hw hret hl
  have hl : lv_has ls 3 [(0, .ref (ad 0)), (1, .null), (2, .int a2)] := hl
  suffices hh : ∀ (H : Heap) (locs : List Loc), MW D (MR ad cI μ) [] (MA ad s.heap.size) s H locs → W p l e (RA 0 0 0) s m #[.ref (ad 0), .null, .int a2] below meth c H locs 0 0 Z (F0 m 0 ls []) from hh _ _ hw
  intro H locs hw
  change Q (1 : Int32) (tms μ 0 7 a2) at h
  refine lv_aload_n hx hb dX11_isCrowded_0 rfl (lv_at hl 0 rfl) ?_
  refine lv_aload_nN hx hb dX11_isCrowded_1 rfl (lv_at hl 1 rfl) ?_
  refine lv_ifnonnullN hx hb dX11_isCrowded_2 ?_
  refine lv_iload_n hx hb dX11_isCrowded_5 rfl (lv_at hl 2 rfl) ?_
  refine lv_goto (tgt := 10) hx hb dX11_isCrowded_6 (by decide) ?_
  refine m_put (i := 7) hx hb ht hown hK hw (by decide) (by decide) (ht _ q_1320) rfl rfl rfl dX11_isCrowded_10 (fun H locs hw => ?_)
  refine lv_aload_nN hx hb dX11_isCrowded_13 rfl (lv_at hl 1 rfl) ?_
  refine lv_ifnonnullN hx hb dX11_isCrowded_14 ?_
  refine lv_iconst (v := (1 : Int32)) hx hb dX11_isCrowded_17 (by decide) ?_
  refine lv_goto (tgt := 22) hx hb dX11_isCrowded_18 (by decide) ?_
  exact hret H locs ls 22 _ _ _ _ _ hw h rfl (show 0 ≤ 0 by omega) (show 0 ≤ 0 by omega) dX11_isCrowded_22
def wp_X11_key (a0 : Int32) (a1 : Int32) (a2 : Int32) (Q : Int32 → Prop) : Prop :=
  Q ((((a0 * (7 : Int32)) + a1) * (3 : Int32)) + a2)
set_option maxHeartbeats 4000000 in
set_option maxRecDepth 100000 in
theorem c_X11_key {l : Launch} (a0 : Int32) (a1 : Int32) (a2 : Int32) {Q : Int32 → Prop} (h : wp_X11_key a0 a1 a2 Q) : PMi l yX11_key (.code yX11_key cX11_key 3 (Option.some Jvm.ClassFile.FieldType.int)) 0 [.int a0, .int a1, .int a2] Q := by
  refine P_meti (by decide +kernel) (Nat.le_of_ble_eq_true rfl) ?_
  intro p e s m below meth c Z ls hx hb hml hown ht hret hl
  have hl : lv_has ls 3 [(0, .int a0), (1, .int a1), (2, .int a2)] := hl
  change Q ((((a0 * (7 : Int32)) + a1) * (3 : Int32)) + a2) at h
  refine lv_iload_n hx hb dX11_key_0 rfl (lv_at hl 0 rfl) ?_
  refine lv_bipush (v := (7 : Int32)) hx hb dX11_key_1 (by decide) ?_
  refine lv_imul hx hb dX11_key_3 ?_
  refine lv_iload_n hx hb dX11_key_4 rfl (lv_at hl 1 rfl) ?_
  refine lv_iadd hx hb dX11_key_5 ?_
  refine lv_iconst (v := (3 : Int32)) hx hb dX11_key_6 (by decide) ?_
  refine lv_imul hx hb dX11_key_7 ?_
  refine lv_iload_n hx hb dX11_key_8 rfl (lv_at hl 2 rfl) ?_
  refine lv_iadd hx hb dX11_key_9 ?_
  exact hret ls 10 _ h rfl dX11_key_10
def wp_X11_isState (μ : TMem) (a1 : Int32) (a2 : Int32) (Q : Int32 → Prop) : Prop :=
  vp_in a1 (ml 1) ∧ (wp_X11_isIn a2 (0 : Int32) ((μ 1 a1.toNatClampNeg) - (1 : Int32)) (fun (r2 : Int32) => isB r2 ∧ (Q r2)))
set_option maxHeartbeats 4000000 in
set_option maxRecDepth 100000 in
theorem c_X11_isState {l : Launch} {D : va_G} {ad : Nat → Nat} {cI cL : ClassId}  (μ : TMem) (sz : Nat) (a1 : Int32) (a2 : Int32)  {Q : Int32 → Prop} (h : wp_X11_isState μ a1 a2 Q) : MMi l yX11_isState (.code yX11_isState cX11_isState 3 (Option.some Jvm.ClassFile.FieldType.boolean)) 1 0 0 [.ref (ad 0), .int a1, .int a2] D ad cI cL sz μ [] (fun r μ1 => μ1 = μ ∧ Q r) := by
  refine M_meti (by decide +kernel) (Nat.le_of_ble_eq_true rfl) ?_
  intro p e s m below meth c Z ls hx hb hml hown ht hK hP0 hI hne hw hret hl
  have hl : lv_has ls 3 [(0, .ref (ad 0)), (1, .int a1), (2, .int a2)] := hl
  suffices hh : ∀ (H : Heap) (locs : List Loc), MW D (MR ad cI μ) [] (MA ad s.heap.size) s H locs → W p l e (RA 1 0 0) s m #[.ref (ad 0), .int a1, .int a2] below meth c H locs 0 0 Z (F0 m 0 ls []) from hh _ _ hw
  intro H locs hw
  change vp_in a1 (ml 1) ∧ (wp_X11_isIn a2 (0 : Int32) ((μ 1 a1.toNatClampNeg) - (1 : Int32)) (fun (r2 : Int32) => isB r2 ∧ (Q r2))) at h
  refine lv_iload_n hx hb dX11_isState_0 rfl (lv_at hl 2 rfl) ?_
  refine lv_iconst (v := (0 : Int32)) hx hb dX11_isState_1 (by decide) ?_
  refine lv_aload_n hx hb dX11_isState_2 rfl (lv_at hl 0 rfl) ?_
  refine m_get (i := 0) hx hb ht hown hK hw (by decide) (ht _ q_1313) rfl rfl dX11_isState_3 ?_
  refine lv_iload_n hx hb dX11_isState_6 rfl (lv_at hl 1 rfl) ?_
  obtain ⟨z1, h⟩ := h
  refine m_iald hx hb hK hw (by decide) z1 dX11_isState_7 ?_
  refine lv_iconst (v := (1 : Int32)) hx hb dX11_isState_8 (by decide) ?_
  refine lv_isub hx hb dX11_isState_9 ?_
  refine P_calli (va_runS (own := "LeastreaderModel") (As := [.int a2, .int (0 : Int32), .int ((μ 1 a1.toNatClampNeg) - (1 : Int32))]) (rest := []) ⟨hx, hb, hml, hown, ht⟩ (c_X11_isIn a2 (0 : Int32) ((μ 1 a1.toNatClampNeg) - (1 : Int32)) h) (va_cwS 3 ht (G_S q_1349 q_1350 q_56 q_1351) rfl rfl rfl hd_78 ⟨Nat.le_of_ble_eq_true rfl, Nat.le_of_ble_eq_true rfl⟩) ⟨PM_blind, PM_pre⟩ rfl rfl hl.1 rfl (lv_room (Nat.le_of_ble_eq_true rfl)) dX11_isState_10 ⟨show 0 + 0 ≤ 0 by omega, show 0 + 0 ≤ 0 by omega⟩) (fun r2 h => ?_)
  obtain ⟨z3, h⟩ := h
  exact hret H locs ls 13 _ _ _ _ _ hw ⟨rfl, h⟩ (isB_n z3) (show 0 ≤ 0 by omega) (show 0 ≤ 0 by omega) dX11_isState_13
def wp_X11_did (μ : TMem) (a1 : Int32) (Q : Int32 → TMem → Prop) : Prop :=
  Q a1 (tms μ 0 4 ((μ 0 4) + (1 : Int32)))
set_option maxHeartbeats 4000000 in
set_option maxRecDepth 100000 in
theorem c_X11_did {l : Launch} {D : va_G} {ad : Nat → Nat} {cI cL : ClassId}  (μ : TMem) (sz : Nat) (a1 : Int32)  {Q : Int32 → TMem → Prop} (h : wp_X11_did μ a1 Q) : MMi l yX11_did (.code yX11_did cX11_did 2 (Option.some Jvm.ClassFile.FieldType.int)) 0 0 0 [.ref (ad 0), .int a1] D ad cI cL sz μ [] Q := by
  refine M_meti (by decide +kernel) (Nat.le_of_ble_eq_true rfl) ?_
  intro p e s m below meth c Z ls hx hb hml hown ht hK hP0 hI hne hw hret hl
  have hl : lv_has ls 2 [(0, .ref (ad 0)), (1, .int a1)] := hl
  suffices hh : ∀ (H : Heap) (locs : List Loc), MW D (MR ad cI μ) [] (MA ad s.heap.size) s H locs → W p l e (RA 0 0 0) s m #[.ref (ad 0), .int a1] below meth c H locs 0 0 Z (F0 m 0 ls []) from hh _ _ hw
  intro H locs hw
  change Q a1 (tms μ 0 4 ((μ 0 4) + (1 : Int32))) at h
  refine lv_aload_n hx hb dX11_did_0 rfl (lv_at hl 0 rfl) ?_
  refine lv_dup hx hb dX11_did_1 rfl ?_
  refine m_get (i := 4) hx hb ht hown hK hw (by decide) (ht _ q_1317) rfl rfl dX11_did_2 ?_
  refine lv_iconst (v := (1 : Int32)) hx hb dX11_did_5 (by decide) ?_
  refine lv_iadd hx hb dX11_did_6 ?_
  refine m_put (i := 4) hx hb ht hown hK hw (by decide) (by decide) (ht _ q_1317) rfl rfl rfl dX11_did_7 (fun H locs hw => ?_)
  refine lv_iload_n hx hb dX11_did_10 rfl (lv_at hl 1 rfl) ?_
  exact hret H locs ls 11 _ _ _ _ _ hw h rfl (show 0 ≤ 0 by omega) (show 0 ≤ 0 by omega) dX11_did_11
def wp_X11_refuse (μ : TMem)  (Q : Int32 → TMem → Prop) : Prop :=
  Q (-9 : Int32) (tms μ 0 5 ((μ 0 5) + (1 : Int32)))
set_option maxHeartbeats 4000000 in
set_option maxRecDepth 100000 in
theorem c_X11_refuse {l : Launch} {D : va_G} {ad : Nat → Nat} {cI cL : ClassId}  (μ : TMem) (sz : Nat)   {Q : Int32 → TMem → Prop} (h : wp_X11_refuse μ Q) : MMi l yX11_refuse (.code yX11_refuse cX11_refuse 1 (Option.some Jvm.ClassFile.FieldType.int)) 0 0 0 [.ref (ad 0)] D ad cI cL sz μ [] Q := by
  refine M_meti (by decide +kernel) (Nat.le_of_ble_eq_true rfl) ?_
  intro p e s m below meth c Z ls hx hb hml hown ht hK hP0 hI hne hw hret hl
  have hl : lv_has ls 1 [(0, .ref (ad 0))] := hl
  suffices hh : ∀ (H : Heap) (locs : List Loc), MW D (MR ad cI μ) [] (MA ad s.heap.size) s H locs → W p l e (RA 0 0 0) s m #[.ref (ad 0)] below meth c H locs 0 0 Z (F0 m 0 ls []) from hh _ _ hw
  intro H locs hw
  change Q (-9 : Int32) (tms μ 0 5 ((μ 0 5) + (1 : Int32))) at h
  refine lv_aload_n hx hb dX11_refuse_0 rfl (lv_at hl 0 rfl) ?_
  refine lv_dup hx hb dX11_refuse_1 rfl ?_
  refine m_get (i := 5) hx hb ht hown hK hw (by decide) (ht _ q_1318) rfl rfl dX11_refuse_2 ?_
  refine lv_iconst (v := (1 : Int32)) hx hb dX11_refuse_5 (by decide) ?_
  refine lv_iadd hx hb dX11_refuse_6 ?_
  refine m_put (i := 5) hx hb ht hown hK hw (by decide) (by decide) (ht _ q_1318) rfl rfl rfl dX11_refuse_7 (fun H locs hw => ?_)
  refine lv_bipush (v := (-9 : Int32)) hx hb dX11_refuse_10 (by decide) ?_
  exact hret H locs ls 12 _ _ _ _ _ hw h rfl (show 0 ≤ 0 by omega) (show 0 ≤ 0 by omega) dX11_refuse_12
def wpl_X11_arrowsOf_9 (μ : TMem) (v5 : Int32) (Q : Int32 → Prop) : Nat → Int32 → Int32 → Prop
  | 0, _, _ => False
  | n + 1, v3, v4 =>
    wp_X11_key v5 (0 : Int32) (0 : Int32) (fun (r6 : Int32) => ((r6 + (21 : Int32)) ≤ v3 → (Q v4)) ∧ (¬ (r6 + (21 : Int32)) ≤ v3 → (vp_in v3 (ml 4) ∧ (wp_J6_bitCount_0f7a4 (μ 4 v3.toNatClampNeg) (fun (r9 : Int32) => wpl_X11_arrowsOf_9 μ v5 Q n (v3 + (1 : Int32)) (v4 + r9))))))
def wp_X11_arrowsOf (μ : TMem) (a1 : Int32) (Q : Int32 → Prop) : Prop :=
  wp_X11_key a1 (0 : Int32) (0 : Int32) (fun (r1 : Int32) => ∃ n1x, wpl_X11_arrowsOf_9 μ a1 Q n1x r1 (0 : Int32))
set_option maxHeartbeats 4000000 in
set_option maxRecDepth 100000 in
theorem c_X11_arrowsOf {l : Launch} {D : va_G} {ad : Nat → Nat} {cI cL : ClassId}  (μ : TMem) (sz : Nat) (a1 : Int32)  {Q : Int32 → Prop} (h : wp_X11_arrowsOf μ a1 Q) : MMi l yX11_arrowsOf (.code yX11_arrowsOf cX11_arrowsOf 4 (Option.some Jvm.ClassFile.FieldType.int)) 1 0 0 [.ref (ad 0), .int a1] D ad cI cL sz μ [] (fun r μ1 => μ1 = μ ∧ Q r) := by
  refine M_meti (by decide +kernel) (Nat.le_of_ble_eq_true rfl) ?_
  intro p e s m below meth c Z ls hx hb hml hown ht hK hP0 hI hne hw hret hl
  have hl : lv_has ls 4 [(0, .ref (ad 0)), (1, .int a1)] := hl
  suffices hh : ∀ (H : Heap) (locs : List Loc), MW D (MR ad cI μ) [] (MA ad s.heap.size) s H locs → W p l e (RA 1 0 0) s m #[.ref (ad 0), .int a1] below meth c H locs 0 0 Z (F0 m 0 ls []) from hh _ _ hw
  intro H locs hw
  change wp_X11_key a1 (0 : Int32) (0 : Int32) (fun (r1 : Int32) => ∃ n1x, wpl_X11_arrowsOf_9 μ a1 Q n1x r1 (0 : Int32)) at h
  refine lv_iconst (v := (0 : Int32)) hx hb dX11_arrowsOf_0 (by decide) ?_
  refine lv_istore_n (lv' := [(2, .int (0 : Int32)), (0, .ref (ad 0)), (1, .int a1)]) hx hb dX11_arrowsOf_1 rfl hl (by decide) rfl (fun ls hl => ?_)
  refine lv_iload_n hx hb dX11_arrowsOf_2 rfl (lv_at hl 2 rfl) ?_
  refine lv_iconst (v := (0 : Int32)) hx hb dX11_arrowsOf_3 (by decide) ?_
  refine lv_iconst (v := (0 : Int32)) hx hb dX11_arrowsOf_4 (by decide) ?_
  refine P_calli (va_runS (own := "LeastreaderModel") (As := [.int a1, .int (0 : Int32), .int (0 : Int32)]) (rest := []) ⟨hx, hb, hml, hown, ht⟩ (c_X11_key a1 (0 : Int32) (0 : Int32) h) (va_cwS 3 ht (G_S q_1360 q_1361 q_56 q_1362) rfl rfl rfl hd_79 ⟨Nat.le_of_ble_eq_true rfl, Nat.le_of_ble_eq_true rfl⟩) ⟨PM_blind, PM_pre⟩ rfl rfl hl.1 rfl (lv_room (Nat.le_of_ble_eq_true rfl)) dX11_arrowsOf_5 ⟨show 0 + 0 ≤ 0 by omega, show 0 + 0 ≤ 0 by omega⟩) (fun r1 h => ?_)
  refine lv_istore_n (lv' := [(3, .int r1), (2, .int (0 : Int32)), (0, .ref (ad 0)), (1, .int a1)]) hx hb dX11_arrowsOf_8 rfl hl (by decide) rfl (fun ls hl => ?_)
  obtain ⟨n10, h⟩ := h
  have L1 : ∀ (v5 : Int32), ∀ (n : Nat), ∀ (v3 : Int32) (v4 : Int32), ∀ (H : Heap) (locs : List Loc) (ls : Array Slot), MW D (MR ad cI μ) [] (MA ad s.heap.size) s H locs → lv_has ls 4 [(3, .int v3), (2, .int v4), (0, .ref (ad 0)), (1, .int v5)] → wpl_X11_arrowsOf_9 μ v5 Q n v3 v4 → W p l e (RA 1 0 0) s m #[.ref (ad 0), .int a1] below meth c H locs 0 0 Z (F0 m 9 ls []) := by
    intro v5
    intro n
    induction n with
    | zero => intro v3 v4 H locs ls hw hl h; exact False.elim h
    | succ n ih1 =>
      intro v3 v4 H locs ls hw hl h
      change wp_X11_key v5 (0 : Int32) (0 : Int32) (fun (r6 : Int32) => ((r6 + (21 : Int32)) ≤ v3 → (Q v4)) ∧ (¬ (r6 + (21 : Int32)) ≤ v3 → (vp_in v3 (ml 4) ∧ (wp_J6_bitCount_0f7a4 (μ 4 v3.toNatClampNeg) (fun (r9 : Int32) => wpl_X11_arrowsOf_9 μ v5 Q n (v3 + (1 : Int32)) (v4 + r9)))))) at h
      refine lv_iload_n hx hb dX11_arrowsOf_9 rfl (lv_at hl 0 rfl) ?_
      refine lv_iload_n hx hb dX11_arrowsOf_10 rfl (lv_at hl 3 rfl) ?_
      refine lv_iconst (v := (0 : Int32)) hx hb dX11_arrowsOf_11 (by decide) ?_
      refine lv_iconst (v := (0 : Int32)) hx hb dX11_arrowsOf_12 (by decide) ?_
      refine P_calli (va_runS (own := "LeastreaderModel") (As := [.int v5, .int (0 : Int32), .int (0 : Int32)]) (rest := [.int v3]) ⟨hx, hb, hml, hown, ht⟩ (c_X11_key v5 (0 : Int32) (0 : Int32) h) (va_cwS 3 ht (G_S q_1360 q_1361 q_56 q_1362) rfl rfl rfl hd_79 ⟨Nat.le_of_ble_eq_true rfl, Nat.le_of_ble_eq_true rfl⟩) ⟨PM_blind, PM_pre⟩ rfl rfl hl.1 rfl (lv_room (Nat.le_of_ble_eq_true rfl)) dX11_arrowsOf_13 ⟨show 0 + 0 ≤ 0 by omega, show 0 + 0 ≤ 0 by omega⟩) (fun r6 h => ?_)
      refine lv_bipush (v := (21 : Int32)) hx hb dX11_arrowsOf_16 (by decide) ?_
      refine lv_iadd hx hb dX11_arrowsOf_18 ?_
      refine lv_icmp_ge (tgt := 40) hx hb dX11_arrowsOf_19 (by decide) (fun c7 => ?_) (fun c7 => ?_)
      · have h := h.1 c7
        refine lv_iload_n hx hb dX11_arrowsOf_40 rfl (lv_at hl 1 rfl) ?_
        exact hret H locs ls 41 _ _ _ _ _ hw ⟨rfl, h⟩ rfl (show 0 ≤ 0 by omega) (show 0 ≤ 0 by omega) dX11_arrowsOf_41
      have h := h.2 c7
      refine lv_iload_n hx hb dX11_arrowsOf_22 rfl (lv_at hl 1 rfl) ?_
      refine lv_aload_n hx hb dX11_arrowsOf_23 rfl (lv_at hl 2 rfl) ?_
      refine m_get (i := 3) hx hb ht hown hK hw (by decide) (ht _ q_1316) rfl rfl dX11_arrowsOf_24 ?_
      refine lv_iload_n hx hb dX11_arrowsOf_27 rfl (lv_at hl 0 rfl) ?_
      obtain ⟨z8, h⟩ := h
      refine m_iald hx hb hK hw (by decide) z8 dX11_arrowsOf_28 ?_
      refine P_calli (va_runS (own := "LeastreaderModel") (As := [.int (μ 4 v3.toNatClampNeg)]) (rest := [.int v4]) ⟨hx, hb, hml, hown, ht⟩ (c_J6_bitCount_0f7a4 (μ 4 v3.toNatClampNeg) h) (va_cwS 1 ht (G_S q_1363 q_564 q_63 q_565) rfl rfl rfl hd_33 ⟨Nat.le_of_ble_eq_true rfl, Nat.le_of_ble_eq_true rfl⟩) ⟨PM_blind, PM_pre⟩ rfl rfl hl.1 rfl (lv_room (Nat.le_of_ble_eq_true rfl)) dX11_arrowsOf_29 ⟨show 0 + 0 ≤ 0 by omega, show 0 + 0 ≤ 0 by omega⟩) (fun r9 h => ?_)
      refine lv_iadd hx hb dX11_arrowsOf_32 ?_
      refine lv_istore_n (lv' := [(2, .int (v4 + r9)), (3, .int v3), (0, .ref (ad 0)), (1, .int v5)]) hx hb dX11_arrowsOf_33 rfl hl (by decide) rfl (fun ls hl => ?_)
      refine lv_iinc (v := (v3 + (1 : Int32))) (lv' := [(3, .int (v3 + (1 : Int32))), (2, .int (v4 + r9)), (0, .ref (ad 0)), (1, .int v5)]) hx hb dX11_arrowsOf_34 hl (k := 1) rfl rfl (by decide) rfl (fun ls hl => ?_)
      refine lv_goto (tgt := 9) hx hb dX11_arrowsOf_37 (by decide) ?_
      exact ih1 (v3 + (1 : Int32)) (v4 + r9) H locs ls hw (lv_sub hl [0, 1, 2, 3] rfl) h
  exact L1 a1 n10 r1 (0 : Int32) H locs ls hw (lv_sub hl [0, 1, 2, 3] rfl) h
def wpl_X11_isPlain_34 (μ : TMem) (v14 : Int32) (v16 : Int32) (K73 : Int32 → Prop) : Nat → Int32 → Int32 → Prop
  | 0, _, _ => False
  | n + 1, v13, v15 =>
    ((3 : Int32) ≤ v13 → (K73 v15)) ∧ (¬ (3 : Int32) ≤ v13 → (wp_X11_key v16 v14 v13 (fun (r18 : Int32) => vp_in r18 (ml 4) ∧ (wp_J6_bitCount_0f7a4 (μ 4 r18.toNatClampNeg) (fun (r20 : Int32) => (¬ r20 = (1 : Int32) → (wpl_X11_isPlain_34 μ v14 v16 K73 n (v13 + (1 : Int32)) (v15 &&& (0 : Int32)))) ∧ (r20 = (1 : Int32) → (wpl_X11_isPlain_34 μ v14 v16 K73 n (v13 + (1 : Int32)) (v15 &&& (1 : Int32)))))))))
def wpl_X11_isPlain_21 (μ : TMem) (v8 : Int32) (Q : Int32 → Prop) : Nat → Int32 → Int32 → Prop
  | 0, _, _ => False
  | n + 1, v6, v7 =>
    vp_in v8 (ml 1) ∧ (((μ 1 v8.toNatClampNeg) ≤ v6 → (isB v7 ∧ (Q v7))) ∧ (¬ (μ 1 v8.toNatClampNeg) ≤ v6 → (∃ n11x, wpl_X11_isPlain_34 μ v6 v8 (fun (u23 : Int32) => wpl_X11_isPlain_21 μ v8 Q n (v6 + (1 : Int32)) u23) n11x (0 : Int32) v7)))
def wp_X11_isPlain (μ : TMem) (a1 : Int32) (Q : Int32 → Prop) : Prop :=
  vp_in a1 (ml 2) ∧ (wp_J6_bitCount_0f7a4 (μ 2 a1.toNatClampNeg) (fun (r2 : Int32) => ∀ J3 : Int32 → Prop, (∀ (j4 : Int32), (∃ n4x, wpl_X11_isPlain_21 μ a1 Q n4x (0 : Int32) j4) → J3 j4) → ((¬ r2 = (1 : Int32) → (J3 (0 : Int32))) ∧ (r2 = (1 : Int32) → (J3 (1 : Int32))))))
set_option maxHeartbeats 4000000 in
set_option maxRecDepth 100000 in
theorem c_X11_isPlain {l : Launch} {D : va_G} {ad : Nat → Nat} {cI cL : ClassId}  (μ : TMem) (sz : Nat) (a1 : Int32)  {Q : Int32 → Prop} (h : wp_X11_isPlain μ a1 Q) : MMi l yX11_isPlain (.code yX11_isPlain cX11_isPlain 5 (Option.some Jvm.ClassFile.FieldType.boolean)) 1 0 0 [.ref (ad 0), .int a1] D ad cI cL sz μ [] (fun r μ1 => μ1 = μ ∧ Q r) := by
  refine M_meti (by decide +kernel) (Nat.le_of_ble_eq_true rfl) ?_
  intro p e s m below meth c Z ls hx hb hml hown ht hK hP0 hI hne hw hret hl
  have hl : lv_has ls 5 [(0, .ref (ad 0)), (1, .int a1)] := hl
  suffices hh : ∀ (H : Heap) (locs : List Loc), MW D (MR ad cI μ) [] (MA ad s.heap.size) s H locs → W p l e (RA 1 0 0) s m #[.ref (ad 0), .int a1] below meth c H locs 0 0 Z (F0 m 0 ls []) from hh _ _ hw
  intro H locs hw
  change vp_in a1 (ml 2) ∧ (wp_J6_bitCount_0f7a4 (μ 2 a1.toNatClampNeg) (fun (r2 : Int32) => ∀ J3 : Int32 → Prop, (∀ (j4 : Int32), (∃ n4x, wpl_X11_isPlain_21 μ a1 Q n4x (0 : Int32) j4) → J3 j4) → ((¬ r2 = (1 : Int32) → (J3 (0 : Int32))) ∧ (r2 = (1 : Int32) → (J3 (1 : Int32)))))) at h
  refine lv_aload_n hx hb dX11_isPlain_0 rfl (lv_at hl 0 rfl) ?_
  refine m_get (i := 1) hx hb ht hown hK hw (by decide) (ht _ q_1314) rfl rfl dX11_isPlain_1 ?_
  refine lv_iload_n hx hb dX11_isPlain_4 rfl (lv_at hl 1 rfl) ?_
  obtain ⟨z1, h⟩ := h
  refine m_iald hx hb hK hw (by decide) z1 dX11_isPlain_5 ?_
  refine P_calli (va_runS (own := "LeastreaderModel") (As := [.int (μ 2 a1.toNatClampNeg)]) (rest := []) ⟨hx, hb, hml, hown, ht⟩ (c_J6_bitCount_0f7a4 (μ 2 a1.toNatClampNeg) h) (va_cwS 1 ht (G_S q_1363 q_564 q_63 q_565) rfl rfl rfl hd_33 ⟨Nat.le_of_ble_eq_true rfl, Nat.le_of_ble_eq_true rfl⟩) ⟨PM_blind, PM_pre⟩ rfl rfl hl.1 rfl (lv_room (Nat.le_of_ble_eq_true rfl)) dX11_isPlain_6 ⟨show 0 + 0 ≤ 0 by omega, show 0 + 0 ≤ 0 by omega⟩) (fun r2 h => ?_)
  refine lv_iconst (v := (1 : Int32)) hx hb dX11_isPlain_9 (by decide) ?_
  have h := h (fun (j4 : Int32) => ∀ (H : Heap) (locs : List Loc) (ls : Array Slot), MW D (MR ad cI μ) [] (MA ad s.heap.size) s H locs → lv_has ls 5 [(0, .ref (ad 0)), (1, .int a1)] → W p l e (RA 1 0 0) s m #[.ref (ad 0), .int a1] below meth c H locs 0 0 Z (F0 m 18 ls [.int j4])) (fun j4 h H locs ls hw hl => by
    refine lv_istore_n (lv' := [(2, .int j4), (0, .ref (ad 0)), (1, .int a1)]) hx hb dX11_isPlain_18 rfl hl (by decide) rfl (fun ls hl => ?_)
    refine lv_iconst (v := (0 : Int32)) hx hb dX11_isPlain_19 (by decide) ?_
    refine lv_istore_n (lv' := [(3, .int (0 : Int32)), (2, .int j4), (0, .ref (ad 0)), (1, .int a1)]) hx hb dX11_isPlain_20 rfl hl (by decide) rfl (fun ls hl => ?_)
    obtain ⟨n24, h⟩ := h
    have L4 : ∀ (v8 : Int32), ∀ (n : Nat), ∀ (v6 : Int32) (v7 : Int32), ∀ (H : Heap) (locs : List Loc) (ls : Array Slot), MW D (MR ad cI μ) [] (MA ad s.heap.size) s H locs → lv_has ls 5 [(3, .int v6), (2, .int v7), (0, .ref (ad 0)), (1, .int v8)] → wpl_X11_isPlain_21 μ v8 Q n v6 v7 → W p l e (RA 1 0 0) s m #[.ref (ad 0), .int a1] below meth c H locs 0 0 Z (F0 m 21 ls []) := by
      intro v8
      intro n
      induction n with
      | zero => intro v6 v7 H locs ls hw hl h; exact False.elim h
      | succ n ih4 =>
        intro v6 v7 H locs ls hw hl h
        change vp_in v8 (ml 1) ∧ (((μ 1 v8.toNatClampNeg) ≤ v6 → (isB v7 ∧ (Q v7))) ∧ (¬ (μ 1 v8.toNatClampNeg) ≤ v6 → (∃ n11x, wpl_X11_isPlain_34 μ v6 v8 (fun (u23 : Int32) => wpl_X11_isPlain_21 μ v8 Q n (v6 + (1 : Int32)) u23) n11x (0 : Int32) v7))) at h
        refine lv_iload_n hx hb dX11_isPlain_21 rfl (lv_at hl 0 rfl) ?_
        refine lv_aload_n hx hb dX11_isPlain_22 rfl (lv_at hl 2 rfl) ?_
        refine m_get (i := 0) hx hb ht hown hK hw (by decide) (ht _ q_1313) rfl rfl dX11_isPlain_23 ?_
        refine lv_iload_n hx hb dX11_isPlain_26 rfl (lv_at hl 3 rfl) ?_
        obtain ⟨z9, h⟩ := h
        refine m_iald hx hb hK hw (by decide) z9 dX11_isPlain_27 ?_
        refine lv_icmp_ge (tgt := 79) hx hb dX11_isPlain_28 (by decide) (fun c10 => ?_) (fun c10 => ?_)
        · have h := h.1 c10
          refine lv_iload_n hx hb dX11_isPlain_79 rfl (lv_at hl 1 rfl) ?_
          obtain ⟨z11, h⟩ := h
          exact hret H locs ls 80 _ _ _ _ _ hw ⟨rfl, h⟩ (isB_n z11) (show 0 ≤ 0 by omega) (show 0 ≤ 0 by omega) dX11_isPlain_80
        have h := h.2 c10
        refine lv_iconst (v := (0 : Int32)) hx hb dX11_isPlain_31 (by decide) ?_
        refine lv_istore (lv' := [(4, .int (0 : Int32)), (3, .int v6), (2, .int v7), (0, .ref (ad 0)), (1, .int v8)]) hx hb dX11_isPlain_32 hl (by decide) rfl (fun ls hl => ?_)
        obtain ⟨n22, h⟩ := h
        have L11 : ∀ (v14 : Int32) (v16 : Int32) (K73 : Int32 → Prop), (∀ (v15 : Int32), ∀ (H : Heap) (locs : List Loc) (ls : Array Slot), MW D (MR ad cI μ) [] (MA ad s.heap.size) s H locs → lv_has ls 5 [(3, .int v14), (2, .int v15), (0, .ref (ad 0)), (1, .int v16)] → K73 v15 → W p l e (RA 1 0 0) s m #[.ref (ad 0), .int a1] below meth c H locs 0 0 Z (F0 m 73 ls [])) → ∀ (n : Nat), ∀ (v13 : Int32) (v15 : Int32), ∀ (H : Heap) (locs : List Loc) (ls : Array Slot), MW D (MR ad cI μ) [] (MA ad s.heap.size) s H locs → lv_has ls 5 [(4, .int v13), (3, .int v14), (2, .int v15), (0, .ref (ad 0)), (1, .int v16)] → wpl_X11_isPlain_34 μ v14 v16 K73 n v13 v15 → W p l e (RA 1 0 0) s m #[.ref (ad 0), .int a1] below meth c H locs 0 0 Z (F0 m 34 ls []) := by
          intro v14 v16 K73 hK73
          intro n
          induction n with
          | zero => intro v13 v15 H locs ls hw hl h; exact False.elim h
          | succ n ih11 =>
            intro v13 v15 H locs ls hw hl h
            change ((3 : Int32) ≤ v13 → (K73 v15)) ∧ (¬ (3 : Int32) ≤ v13 → (wp_X11_key v16 v14 v13 (fun (r18 : Int32) => vp_in r18 (ml 4) ∧ (wp_J6_bitCount_0f7a4 (μ 4 r18.toNatClampNeg) (fun (r20 : Int32) => (¬ r20 = (1 : Int32) → (wpl_X11_isPlain_34 μ v14 v16 K73 n (v13 + (1 : Int32)) (v15 &&& (0 : Int32)))) ∧ (r20 = (1 : Int32) → (wpl_X11_isPlain_34 μ v14 v16 K73 n (v13 + (1 : Int32)) (v15 &&& (1 : Int32))))))))) at h
            refine lv_iload hx hb dX11_isPlain_34 (lv_at hl 0 rfl) ?_
            refine lv_iconst (v := (3 : Int32)) hx hb dX11_isPlain_36 (by decide) ?_
            refine lv_icmp_ge (tgt := 73) hx hb dX11_isPlain_37 (by decide) (fun c17 => ?_) (fun c17 => ?_)
            · have h := h.1 c17
              exact hK73 v15 H locs ls hw (lv_sub hl [1, 2, 3, 4] rfl) h
            have h := h.2 c17
            refine lv_iload_n hx hb dX11_isPlain_40 rfl (lv_at hl 2 rfl) ?_
            refine lv_aload_n hx hb dX11_isPlain_41 rfl (lv_at hl 3 rfl) ?_
            refine m_get (i := 3) hx hb ht hown hK hw (by decide) (ht _ q_1316) rfl rfl dX11_isPlain_42 ?_
            refine lv_iload_n hx hb dX11_isPlain_45 rfl (lv_at hl 4 rfl) ?_
            refine lv_iload_n hx hb dX11_isPlain_46 rfl (lv_at hl 1 rfl) ?_
            refine lv_iload hx hb dX11_isPlain_47 (lv_at hl 0 rfl) ?_
            refine P_calli (va_runS (own := "LeastreaderModel") (As := [.int v16, .int v14, .int v13]) (rest := [.ref (ad 4), .int v15]) ⟨hx, hb, hml, hown, ht⟩ (c_X11_key v16 v14 v13 h) (va_cwS 3 ht (G_S q_1360 q_1361 q_56 q_1362) rfl rfl rfl hd_79 ⟨Nat.le_of_ble_eq_true rfl, Nat.le_of_ble_eq_true rfl⟩) ⟨PM_blind, PM_pre⟩ rfl rfl hl.1 rfl (lv_room (Nat.le_of_ble_eq_true rfl)) dX11_isPlain_49 ⟨show 0 + 0 ≤ 0 by omega, show 0 + 0 ≤ 0 by omega⟩) (fun r18 h => ?_)
            obtain ⟨z19, h⟩ := h
            refine m_iald hx hb hK hw (by decide) z19 dX11_isPlain_52 ?_
            refine P_calli (va_runS (own := "LeastreaderModel") (As := [.int (μ 4 r18.toNatClampNeg)]) (rest := [.int v15]) ⟨hx, hb, hml, hown, ht⟩ (c_J6_bitCount_0f7a4 (μ 4 r18.toNatClampNeg) h) (va_cwS 1 ht (G_S q_1363 q_564 q_63 q_565) rfl rfl rfl hd_33 ⟨Nat.le_of_ble_eq_true rfl, Nat.le_of_ble_eq_true rfl⟩) ⟨PM_blind, PM_pre⟩ rfl rfl hl.1 rfl (lv_room (Nat.le_of_ble_eq_true rfl)) dX11_isPlain_53 ⟨show 0 + 0 ≤ 0 by omega, show 0 + 0 ≤ 0 by omega⟩) (fun r20 h => ?_)
            refine lv_iconst (v := (1 : Int32)) hx hb dX11_isPlain_56 (by decide) ?_
            refine lv_icmp_ne (tgt := 64) hx hb dX11_isPlain_57 (by decide) (fun c21 => ?_) (fun c21 => ?_)
            · have h := h.1 c21
              refine lv_iconst (v := (0 : Int32)) hx hb dX11_isPlain_64 (by decide) ?_
              refine lv_iand hx hb dX11_isPlain_65 ?_
              refine lv_istore_n (lv' := [(2, .int (v15 &&& (0 : Int32))), (4, .int v13), (3, .int v14), (0, .ref (ad 0)), (1, .int v16)]) hx hb dX11_isPlain_66 rfl hl (by decide) rfl (fun ls hl => ?_)
              refine lv_iinc (v := (v13 + (1 : Int32))) (lv' := [(4, .int (v13 + (1 : Int32))), (2, .int (v15 &&& (0 : Int32))), (3, .int v14), (0, .ref (ad 0)), (1, .int v16)]) hx hb dX11_isPlain_67 hl (k := 1) rfl rfl (by decide) rfl (fun ls hl => ?_)
              refine lv_goto (tgt := 34) hx hb dX11_isPlain_70 (by decide) ?_
              exact ih11 (v13 + (1 : Int32)) (v15 &&& (0 : Int32)) H locs ls hw (lv_sub hl [0, 2, 1, 3, 4] rfl) h
            have h := h.2 c21
            refine lv_iconst (v := (1 : Int32)) hx hb dX11_isPlain_60 (by decide) ?_
            refine lv_goto (tgt := 65) hx hb dX11_isPlain_61 (by decide) ?_
            refine lv_iand hx hb dX11_isPlain_65 ?_
            refine lv_istore_n (lv' := [(2, .int (v15 &&& (1 : Int32))), (4, .int v13), (3, .int v14), (0, .ref (ad 0)), (1, .int v16)]) hx hb dX11_isPlain_66 rfl hl (by decide) rfl (fun ls hl => ?_)
            refine lv_iinc (v := (v13 + (1 : Int32))) (lv' := [(4, .int (v13 + (1 : Int32))), (2, .int (v15 &&& (1 : Int32))), (3, .int v14), (0, .ref (ad 0)), (1, .int v16)]) hx hb dX11_isPlain_67 hl (k := 1) rfl rfl (by decide) rfl (fun ls hl => ?_)
            refine lv_goto (tgt := 34) hx hb dX11_isPlain_70 (by decide) ?_
            exact ih11 (v13 + (1 : Int32)) (v15 &&& (1 : Int32)) H locs ls hw (lv_sub hl [0, 2, 1, 3, 4] rfl) h
        refine L11 v6 v8 _ ?_ n22 (0 : Int32) v7 H locs ls hw (lv_sub hl [0, 1, 2, 3, 4] rfl) h
        intro u23 H locs ls hw hl h
        refine lv_iinc (v := (v6 + (1 : Int32))) (lv' := [(3, .int (v6 + (1 : Int32))), (2, .int u23), (0, .ref (ad 0)), (1, .int v8)]) hx hb dX11_isPlain_73 hl (k := 0) rfl rfl (by decide) rfl (fun ls hl => ?_)
        refine lv_goto (tgt := 21) hx hb dX11_isPlain_76 (by decide) ?_
        exact ih4 (v6 + (1 : Int32)) u23 H locs ls hw (lv_sub hl [0, 1, 2, 3] rfl) h
    exact L4 a1 n24 (0 : Int32) j4 H locs ls hw (lv_sub hl [0, 1, 2, 3] rfl) h)
  refine lv_icmp_ne (tgt := 17) hx hb dX11_isPlain_10 (by decide) (fun c25 => ?_) (fun c25 => ?_)
  · have h := h.1 c25
    refine lv_iconst (v := (0 : Int32)) hx hb dX11_isPlain_17 (by decide) ?_
    exact h H locs ls hw (lv_sub hl [0, 1] rfl)
  have h := h.2 c25
  refine lv_iconst (v := (1 : Int32)) hx hb dX11_isPlain_13 (by decide) ?_
  refine lv_goto (tgt := 18) hx hb dX11_isPlain_14 (by decide) ?_
  exact h H locs ls hw (lv_sub hl [0, 1] rfl)
def wpl_X11_next_15 (fa1 : Nat → Int64) (na1 : Nat) (v11 : Int32) (v13 : Int32) (v14 : Int64) (v15 : Int32) (v16 : Int32) (K98 : Int64 → Prop) : Nat → Int32 → Int64 → Prop
  | 0, _, _ => False
  | n + 1, v10, v12 =>
    (v13 ≤ v10 → (K98 v12)) ∧ (¬ v13 ≤ v10 → (∀ J18 : Int32 → Prop, (∀ (j19 : Int32), (vp_in (((3 : Int32) * j19) + v15) na1 ∧ (∀ J21 : Int32 → Prop, (∀ (j22 : Int32), (∀ J23 : Int32 → Prop, (∀ (j24 : Int32), ((j24 = 0 → (wpl_X11_next_15 fa1 na1 v11 v13 v14 v15 v16 K98 n (v10 + (1 : Int32)) v12)) ∧ (¬ j24 = 0 → ((¬ (lg_cmp ((v14 >>> (v11.toInt64 &&& 63)) &&& (1 : Int64)) (1 : Int64)) = 0 → (wpl_X11_next_15 fa1 na1 v11 v13 v14 v15 v16 K98 n (v10 + (1 : Int32)) v12)) ∧ ((lg_cmp ((v14 >>> (v11.toInt64 &&& 63)) &&& (1 : Int64)) (1 : Int64)) = 0 → (wpl_X11_next_15 fa1 na1 v11 v13 v14 v15 v16 K98 n (v10 + (1 : Int32)) (v12 ||| ((1 : Int64) <<< (v10.toInt64 &&& 63)))))))) → J23 j24) → ((¬ (lg_cmp (((fa1 (((3 : Int32) * j19) + v15).toNatClampNeg) >>> (j22.toInt64 &&& 63)) &&& (1 : Int64)) (1 : Int64)) = 0 → (J23 (0 : Int32))) ∧ ((lg_cmp (((fa1 (((3 : Int32) * j19) + v15).toNatClampNeg) >>> (j22.toInt64 &&& 63)) &&& (1 : Int64)) (1 : Int64)) = 0 → (J23 (1 : Int32))))) → J21 j22) → ((v16 = 0 → (J21 v10)) ∧ (¬ v16 = 0 → (J21 v11))))) → J18 j19) → ((v16 = 0 → (J18 v11)) ∧ (¬ v16 = 0 → (J18 v10)))))
def wpl_X11_next_6 (fa1 : Nat → Int64) (na1 : Nat) (v4 : Int32) (v5 : Int64) (v6 : Int32) (v7 : Int32) (Q : Int64 → Prop) : Nat → Int32 → Int64 → Prop
  | 0, _, _ => False
  | n + 1, v2, v3 =>
    (v4 ≤ v2 → (Q v3)) ∧ (¬ v4 ≤ v2 → (∃ n8x, wpl_X11_next_15 fa1 na1 v2 v4 v5 v6 v7 (fun (u31 : Int64) => wpl_X11_next_6 fa1 na1 v4 v5 v6 v7 Q n (v2 + (1 : Int32)) u31) n8x (0 : Int32) v3))
def wp_X11_next (na1 : Nat) (fa1 : Nat → Int64) (a2 : Int32) (a3 : Int64) (a4 : Int32) (a5 : Int32) (Q : Int64 → Prop) : Prop :=
  ∃ n0x, wpl_X11_next_6 fa1 na1 a2 a3 a4 a5 Q n0x (0 : Int32) (0 : Int64)
set_option maxHeartbeats 4000000 in
set_option maxRecDepth 100000 in
theorem c_X11_next {l : Launch} {D : va_G} {cI cL : ClassId} (qa1 : Nat)  (sz : Nat) (na1 : Nat) (fa1 : Nat → Int64) (a2 : Int32) (a3 : Int64) (a4 : Int32) (a5 : Int32)  {Q : Int64 → Prop} (h : wp_X11_next na1 fa1 a2 a3 a4 a5 Q) : SMl l yX11_next (.code yX11_next cX11_next 11 (Option.some Jvm.ClassFile.FieldType.long)) 0 0 0 [.ref qa1, .int a2, .long a3, .int a4, .int a5] D cI cL sz [eL cL qa1 na1 fa1] Q := by
  refine S_metl (by decide +kernel) (Nat.le_of_ble_eq_true rfl) ?_
  intro p e s m below meth c Z ls hx hb hml hown ht hK hP0 hw hret hl
  have hl : lv_has ls 11 [(0, .ref qa1), (1, .int a2), (2, .long a3), (4, .int a4), (5, .int a5)] := hl
  have hL0 := va_Ph hP0
  have hB0 : ¬ SA s.heap.size qa1 := fun z => absurd hL0.lt (Nat.not_lt.mpr z)
  suffices hh : ∀ (H : Heap) (locs : List Loc), MW D [] [] (SA s.heap.size) s H locs → W p l e (RA 0 0 0) s m #[.ref qa1, .int a2, .long a3, .int a4, .int a5] below meth c H locs 0 0 Z (F0 m 0 ls []) from hh _ _ hw
  intro H locs hw
  change ∃ n0x, wpl_X11_next_6 fa1 na1 a2 a3 a4 a5 Q n0x (0 : Int32) (0 : Int64) at h
  refine lv_lconst (v := (0 : Int64)) hx hb dX11_next_0 (by decide) ?_
  refine lv_lstore (lv' := [(6, .long (0 : Int64)), (0, .ref qa1), (1, .int a2), (2, .long a3), (4, .int a4), (5, .int a5)]) hx hb dX11_next_1 hl (by decide) rfl (fun ls hl => ?_)
  refine lv_iconst (v := (0 : Int32)) hx hb dX11_next_3 (by decide) ?_
  refine lv_istore (lv' := [(8, .int (0 : Int32)), (6, .long (0 : Int64)), (0, .ref qa1), (1, .int a2), (2, .long a3), (4, .int a4), (5, .int a5)]) hx hb dX11_next_4 hl (by decide) rfl (fun ls hl => ?_)
  obtain ⟨n32, h⟩ := h
  have L0 : ∀ (v4 : Int32) (v5 : Int64) (v6 : Int32) (v7 : Int32), ∀ (n : Nat), ∀ (v2 : Int32) (v3 : Int64), ∀ (H : Heap) (locs : List Loc) (ls : Array Slot), MW D [] [] (SA s.heap.size) s H locs → lv_has ls 11 [(8, .int v2), (6, .long v3), (0, .ref qa1), (1, .int v4), (2, .long v5), (4, .int v6), (5, .int v7)] → wpl_X11_next_6 fa1 na1 v4 v5 v6 v7 Q n v2 v3 → W p l e (RA 0 0 0) s m #[.ref qa1, .int a2, .long a3, .int a4, .int a5] below meth c H locs 0 0 Z (F0 m 6 ls []) := by
    intro v4 v5 v6 v7
    intro n
    induction n with
    | zero => intro v2 v3 H locs ls hw hl h; exact False.elim h
    | succ n ih0 =>
      intro v2 v3 H locs ls hw hl h
      change (v4 ≤ v2 → (Q v3)) ∧ (¬ v4 ≤ v2 → (∃ n8x, wpl_X11_next_15 fa1 na1 v2 v4 v5 v6 v7 (fun (u31 : Int64) => wpl_X11_next_6 fa1 na1 v4 v5 v6 v7 Q n (v2 + (1 : Int32)) u31) n8x (0 : Int32) v3)) at h
      refine lv_iload hx hb dX11_next_6 (lv_at hl 0 rfl) ?_
      refine lv_iload_n hx hb dX11_next_8 rfl (lv_at hl 3 rfl) ?_
      refine lv_icmp_ge (tgt := 104) hx hb dX11_next_9 (by decide) (fun c8 => ?_) (fun c8 => ?_)
      · have h := h.1 c8
        refine lv_lload hx hb dX11_next_104 (lv_at hl 1 rfl) ?_
        exact hret H locs ls 106 _ _ _ _ hw h (show 0 ≤ 0 by omega) (show 0 ≤ 0 by omega) dX11_next_106
      have h := h.2 c8
      refine lv_iconst (v := (0 : Int32)) hx hb dX11_next_12 (by decide) ?_
      refine lv_istore (lv' := [(9, .int (0 : Int32)), (8, .int v2), (6, .long v3), (0, .ref qa1), (1, .int v4), (2, .long v5), (4, .int v6), (5, .int v7)]) hx hb dX11_next_13 hl (by decide) rfl (fun ls hl => ?_)
      obtain ⟨n30, h⟩ := h
      have L8 : ∀ (v11 : Int32) (v13 : Int32) (v14 : Int64) (v15 : Int32) (v16 : Int32) (K98 : Int64 → Prop), (∀ (v12 : Int64), ∀ (H : Heap) (locs : List Loc) (ls : Array Slot), MW D [] [] (SA s.heap.size) s H locs → lv_has ls 11 [(8, .int v11), (6, .long v12), (0, .ref qa1), (1, .int v13), (2, .long v14), (4, .int v15), (5, .int v16)] → K98 v12 → W p l e (RA 0 0 0) s m #[.ref qa1, .int a2, .long a3, .int a4, .int a5] below meth c H locs 0 0 Z (F0 m 98 ls [])) → ∀ (n : Nat), ∀ (v10 : Int32) (v12 : Int64), ∀ (H : Heap) (locs : List Loc) (ls : Array Slot), MW D [] [] (SA s.heap.size) s H locs → lv_has ls 11 [(9, .int v10), (8, .int v11), (6, .long v12), (0, .ref qa1), (1, .int v13), (2, .long v14), (4, .int v15), (5, .int v16)] → wpl_X11_next_15 fa1 na1 v11 v13 v14 v15 v16 K98 n v10 v12 → W p l e (RA 0 0 0) s m #[.ref qa1, .int a2, .long a3, .int a4, .int a5] below meth c H locs 0 0 Z (F0 m 15 ls []) := by
        intro v11 v13 v14 v15 v16 K98 hK98
        intro n
        induction n with
        | zero => intro v10 v12 H locs ls hw hl h; exact False.elim h
        | succ n ih8 =>
          intro v10 v12 H locs ls hw hl h
          change (v13 ≤ v10 → (K98 v12)) ∧ (¬ v13 ≤ v10 → (∀ J18 : Int32 → Prop, (∀ (j19 : Int32), (vp_in (((3 : Int32) * j19) + v15) na1 ∧ (∀ J21 : Int32 → Prop, (∀ (j22 : Int32), (∀ J23 : Int32 → Prop, (∀ (j24 : Int32), ((j24 = 0 → (wpl_X11_next_15 fa1 na1 v11 v13 v14 v15 v16 K98 n (v10 + (1 : Int32)) v12)) ∧ (¬ j24 = 0 → ((¬ (lg_cmp ((v14 >>> (v11.toInt64 &&& 63)) &&& (1 : Int64)) (1 : Int64)) = 0 → (wpl_X11_next_15 fa1 na1 v11 v13 v14 v15 v16 K98 n (v10 + (1 : Int32)) v12)) ∧ ((lg_cmp ((v14 >>> (v11.toInt64 &&& 63)) &&& (1 : Int64)) (1 : Int64)) = 0 → (wpl_X11_next_15 fa1 na1 v11 v13 v14 v15 v16 K98 n (v10 + (1 : Int32)) (v12 ||| ((1 : Int64) <<< (v10.toInt64 &&& 63)))))))) → J23 j24) → ((¬ (lg_cmp (((fa1 (((3 : Int32) * j19) + v15).toNatClampNeg) >>> (j22.toInt64 &&& 63)) &&& (1 : Int64)) (1 : Int64)) = 0 → (J23 (0 : Int32))) ∧ ((lg_cmp (((fa1 (((3 : Int32) * j19) + v15).toNatClampNeg) >>> (j22.toInt64 &&& 63)) &&& (1 : Int64)) (1 : Int64)) = 0 → (J23 (1 : Int32))))) → J21 j22) → ((v16 = 0 → (J21 v10)) ∧ (¬ v16 = 0 → (J21 v11))))) → J18 j19) → ((v16 = 0 → (J18 v11)) ∧ (¬ v16 = 0 → (J18 v10))))) at h
          refine lv_iload hx hb dX11_next_15 (lv_at hl 0 rfl) ?_
          refine lv_iload_n hx hb dX11_next_17 rfl (lv_at hl 4 rfl) ?_
          refine lv_icmp_ge (tgt := 98) hx hb dX11_next_18 (by decide) (fun c17 => ?_) (fun c17 => ?_)
          · have h := h.1 c17
            exact hK98 v12 H locs ls hw (lv_sub hl [1, 2, 3, 4, 5, 6, 7] rfl) h
          have h := h.2 c17
          refine lv_aload_n hx hb dX11_next_21 rfl (lv_at hl 3 rfl) ?_
          refine lv_iconst (v := (3 : Int32)) hx hb dX11_next_22 (by decide) ?_
          refine lv_iload hx hb dX11_next_23 (lv_at hl 7 rfl) ?_
          have h := h (fun (j19 : Int32) => ∀ (H : Heap) (locs : List Loc) (ls : Array Slot), MW D [] [] (SA s.heap.size) s H locs → lv_has ls 11 [(9, .int v10), (8, .int v11), (6, .long v12), (0, .ref qa1), (1, .int v13), (2, .long v14), (4, .int v15), (5, .int v16)] → W p l e (RA 0 0 0) s m #[.ref qa1, .int a2, .long a3, .int a4, .int a5] below meth c H locs 0 0 Z (F0 m 35 ls [.int j19, .int (3 : Int32), .ref qa1])) (fun j19 h H locs ls hw hl => by
            refine lv_imul hx hb dX11_next_35 ?_
            refine lv_iload hx hb dX11_next_36 (lv_at hl 6 rfl) ?_
            refine lv_iadd hx hb dX11_next_38 ?_
            obtain ⟨z20, h⟩ := h
            refine n_lald hx hb hK (hw.arg hL0 hB0) z20 dX11_next_39 ?_
            refine lv_iload hx hb dX11_next_40 (lv_at hl 7 rfl) ?_
            have h := h (fun (j22 : Int32) => ∀ (H : Heap) (locs : List Loc) (ls : Array Slot), MW D [] [] (SA s.heap.size) s H locs → lv_has ls 11 [(9, .int v10), (8, .int v11), (6, .long v12), (0, .ref qa1), (1, .int v13), (2, .long v14), (4, .int v15), (5, .int v16)] → W p l e (RA 0 0 0) s m #[.ref qa1, .int a2, .long a3, .int a4, .int a5] below meth c H locs 0 0 Z (F0 m 52 ls [.int j22, .long (fa1 (((3 : Int32) * j19) + v15).toNatClampNeg)])) (fun j22 h H locs ls hw hl => by
              refine lv_lshr hx hb dX11_next_52 rfl ?_
              refine lv_lconst (v := (1 : Int64)) hx hb dX11_next_53 (by decide) ?_
              refine lv_land hx hb dX11_next_54 ?_
              refine lv_lconst (v := (1 : Int64)) hx hb dX11_next_55 (by decide) ?_
              refine W.lcmp hx hb dX11_next_56 ?_
              have h := h (fun (j24 : Int32) => ∀ (H : Heap) (locs : List Loc) (ls : Array Slot), MW D [] [] (SA s.heap.size) s H locs → lv_has ls 11 [(9, .int v10), (8, .int v11), (6, .long v12), (0, .ref qa1), (1, .int v13), (2, .long v14), (4, .int v15), (5, .int v16)] → W p l e (RA 0 0 0) s m #[.ref qa1, .int a2, .long a3, .int a4, .int a5] below meth c H locs 0 0 Z (F0 m 65 ls [.int j24])) (fun j24 h H locs ls hw hl => by
                refine lv_istore (lv' := [(10, .int j24), (9, .int v10), (8, .int v11), (6, .long v12), (0, .ref qa1), (1, .int v13), (2, .long v14), (4, .int v15), (5, .int v16)]) hx hb dX11_next_65 hl (by decide) rfl (fun ls hl => ?_)
                refine lv_iload hx hb dX11_next_67 (lv_at hl 0 rfl) ?_
                refine lv_if_eq (tgt := 92) hx hb dX11_next_69 (by decide) (fun c25 => ?_) (fun c25 => ?_)
                · have h := h.1 c25
                  refine lv_iinc (v := (v10 + (1 : Int32))) (lv' := [(9, .int (v10 + (1 : Int32))), (10, .int j24), (8, .int v11), (6, .long v12), (0, .ref qa1), (1, .int v13), (2, .long v14), (4, .int v15), (5, .int v16)]) hx hb dX11_next_92 hl (k := 1) rfl rfl (by decide) rfl (fun ls hl => ?_)
                  refine lv_goto (tgt := 15) hx hb dX11_next_95 (by decide) ?_
                  exact ih8 (v10 + (1 : Int32)) v12 H locs ls hw (lv_sub hl [0, 2, 3, 4, 5, 6, 7, 8] rfl) h
                have h := h.2 c25
                refine lv_lload_n hx hb dX11_next_72 rfl (lv_at hl 6 rfl) ?_
                refine lv_iload hx hb dX11_next_73 (lv_at hl 2 rfl) ?_
                refine lv_lshr hx hb dX11_next_75 rfl ?_
                refine lv_lconst (v := (1 : Int64)) hx hb dX11_next_76 (by decide) ?_
                refine lv_land hx hb dX11_next_77 ?_
                refine lv_lconst (v := (1 : Int64)) hx hb dX11_next_78 (by decide) ?_
                refine W.lcmp hx hb dX11_next_79 ?_
                refine lv_if_ne (tgt := 92) hx hb dX11_next_80 (by decide) (fun c26 => ?_) (fun c26 => ?_)
                · have h := h.1 c26
                  refine lv_iinc (v := (v10 + (1 : Int32))) (lv' := [(9, .int (v10 + (1 : Int32))), (10, .int j24), (8, .int v11), (6, .long v12), (0, .ref qa1), (1, .int v13), (2, .long v14), (4, .int v15), (5, .int v16)]) hx hb dX11_next_92 hl (k := 1) rfl rfl (by decide) rfl (fun ls hl => ?_)
                  refine lv_goto (tgt := 15) hx hb dX11_next_95 (by decide) ?_
                  exact ih8 (v10 + (1 : Int32)) v12 H locs ls hw (lv_sub hl [0, 2, 3, 4, 5, 6, 7, 8] rfl) h
                have h := h.2 c26
                refine lv_lload hx hb dX11_next_83 (lv_at hl 3 rfl) ?_
                refine lv_lconst (v := (1 : Int64)) hx hb dX11_next_85 (by decide) ?_
                refine lv_iload hx hb dX11_next_86 (lv_at hl 1 rfl) ?_
                refine lv_lshl hx hb dX11_next_88 rfl ?_
                refine lv_lor hx hb dX11_next_89 ?_
                refine lv_lstore (lv' := [(6, .long (v12 ||| ((1 : Int64) <<< (v10.toInt64 &&& 63)))), (10, .int j24), (9, .int v10), (8, .int v11), (0, .ref qa1), (1, .int v13), (2, .long v14), (4, .int v15), (5, .int v16)]) hx hb dX11_next_90 hl (by decide) rfl (fun ls hl => ?_)
                refine lv_iinc (v := (v10 + (1 : Int32))) (lv' := [(9, .int (v10 + (1 : Int32))), (6, .long (v12 ||| ((1 : Int64) <<< (v10.toInt64 &&& 63)))), (10, .int j24), (8, .int v11), (0, .ref qa1), (1, .int v13), (2, .long v14), (4, .int v15), (5, .int v16)]) hx hb dX11_next_92 hl (k := 2) rfl rfl (by decide) rfl (fun ls hl => ?_)
                refine lv_goto (tgt := 15) hx hb dX11_next_95 (by decide) ?_
                exact ih8 (v10 + (1 : Int32)) (v12 ||| ((1 : Int64) <<< (v10.toInt64 &&& 63))) H locs ls hw (lv_sub hl [0, 3, 1, 4, 5, 6, 7, 8] rfl) h)
              refine lv_if_ne (tgt := 64) hx hb dX11_next_57 (by decide) (fun c27 => ?_) (fun c27 => ?_)
              · have h := h.1 c27
                refine lv_iconst (v := (0 : Int32)) hx hb dX11_next_64 (by decide) ?_
                exact h H locs ls hw (lv_sub hl [0, 1, 2, 3, 4, 5, 6, 7] rfl)
              have h := h.2 c27
              refine lv_iconst (v := (1 : Int32)) hx hb dX11_next_60 (by decide) ?_
              refine lv_goto (tgt := 65) hx hb dX11_next_61 (by decide) ?_
              exact h H locs ls hw (lv_sub hl [0, 1, 2, 3, 4, 5, 6, 7] rfl))
            refine lv_if_eq (tgt := 50) hx hb dX11_next_42 (by decide) (fun c28 => ?_) (fun c28 => ?_)
            · have h := h.1 c28
              refine lv_iload hx hb dX11_next_50 (lv_at hl 0 rfl) ?_
              exact h H locs ls hw (lv_sub hl [0, 1, 2, 3, 4, 5, 6, 7] rfl)
            have h := h.2 c28
            refine lv_iload hx hb dX11_next_45 (lv_at hl 1 rfl) ?_
            refine lv_goto (tgt := 52) hx hb dX11_next_47 (by decide) ?_
            exact h H locs ls hw (lv_sub hl [0, 1, 2, 3, 4, 5, 6, 7] rfl))
          refine lv_if_eq (tgt := 33) hx hb dX11_next_25 (by decide) (fun c29 => ?_) (fun c29 => ?_)
          · have h := h.1 c29
            refine lv_iload hx hb dX11_next_33 (lv_at hl 1 rfl) ?_
            exact h H locs ls hw (lv_sub hl [0, 1, 2, 3, 4, 5, 6, 7] rfl)
          have h := h.2 c29
          refine lv_iload hx hb dX11_next_28 (lv_at hl 0 rfl) ?_
          refine lv_goto (tgt := 35) hx hb dX11_next_30 (by decide) ?_
          exact h H locs ls hw (lv_sub hl [0, 1, 2, 3, 4, 5, 6, 7] rfl)
      refine L8 v2 v4 v5 v6 v7 _ ?_ n30 (0 : Int32) v3 H locs ls hw (lv_sub hl [0, 1, 2, 3, 4, 5, 6, 7] rfl) h
      intro u31 H locs ls hw hl h
      refine lv_iinc (v := (v2 + (1 : Int32))) (lv' := [(8, .int (v2 + (1 : Int32))), (6, .long u31), (0, .ref qa1), (1, .int v4), (2, .long v5), (4, .int v6), (5, .int v7)]) hx hb dX11_next_98 hl (k := 0) rfl rfl (by decide) rfl (fun ls hl => ?_)
      refine lv_goto (tgt := 6) hx hb dX11_next_101 (by decide) ?_
      exact ih0 (v2 + (1 : Int32)) u31 H locs ls hw (lv_sub hl [0, 1, 2, 3, 4, 5, 6] rfl) h
  exact L0 a2 a3 a4 a5 n32 (0 : Int32) (0 : Int64) H locs ls hw (lv_sub hl [0, 1, 2, 3, 4, 5, 6] rfl) h
