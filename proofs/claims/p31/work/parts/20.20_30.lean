/-! part 20.m1 -/
section
def wp_X9_knock (μ : TMem) (Q : Int32 → TMem → Prop) : Prop :=
  Q ((tms μ 0 13 ((μ 0 13) + (1 : Int32))) 0 13) (tms μ 0 13 ((μ 0 13) + (1 : Int32)))
set_option maxHeartbeats 4000000 in
set_option maxRecDepth 100000 in
theorem c_X9_knock {l : Launch} {D : va_G} {ad : Nat → Nat} {cI cM : ClassId}  (μ : TMem) (sz : Nat)  {Q : Int32 → TMem → Prop} (h : wp_X9_knock μ Q) : TMi l yX9_knock (.code yX9_knock cX9_knock 1 (Option.some Jvm.ClassFile.FieldType.int)) 0 [.ref (ad 0)] D ad cI cM sz μ Q := by
  refine T_meti (by decide +kernel) (Nat.le_of_ble_eq_true rfl) ?_
  intro p e s m below meth c Z ls hx hb hml hown ht hN hK hw hret hl
  have hl : lv_has ls 1 [(0, .ref (ad 0))] := hl
  generalize s.heap = H at hw ⊢
  generalize ([] : List Loc) = locs at hw ⊢
  change Q ((tms μ 0 13 ((μ 0 13) + (1 : Int32))) 0 13) (tms μ 0 13 ((μ 0 13) + (1 : Int32))) at h
  refine lv_aload_n hx hb dX9_knock_0 rfl (lv_at hl 0 rfl) ?_
  refine lv_dup hx hb dX9_knock_1 rfl ?_
  refine gf_X9_252 hx hb ht hown hK hw rfl dX9_knock_2 ?_
  refine lv_iconst (v := (1 : Int32)) hx hb dX9_knock_5 (by decide) ?_
  refine lv_iadd hx hb dX9_knock_6 ?_
  refine pgf_X9_252 hx hb ht hown hK hw rfl dX9_knock_7 (fun H locs hw => ?_)
  refine lv_aload_n hx hb dX9_knock_10 rfl (lv_at hl 0 rfl) ?_
  refine gf_X9_252 hx hb ht hown hK hw rfl dX9_knock_11 ?_
  exact hret H locs ls 14 _ _ hw h rfl dX9_knock_14
def wpl_X9_countCodes_4 (v4 : Int32) (Q : Int32 → Prop) : Nat → Int32 → Int32 → Prop
  | 0, _, _ => False
  | n + 1, v2, v3 =>
    (v4 ≤ v2 → (Q v3)) ∧ (¬ v4 ≤ v2 → (wpl_X9_countCodes_4 v4 Q n (v2 + (1 : Int32)) (v3 * (3 : Int32))))
def wp_X9_countCodes (a0 : Int32) (Q : Int32 → Prop) : Prop :=
  ∃ n0x, wpl_X9_countCodes_4 a0 Q n0x (0 : Int32) (1 : Int32)
set_option maxHeartbeats 4000000 in
set_option maxRecDepth 100000 in
theorem c_X9_countCodes {l : Launch} (a0 : Int32) {Q : Int32 → Prop} (h : wp_X9_countCodes a0 Q) : PMi l yX9_countCodes (.code yX9_countCodes cX9_countCodes 3 (Option.some Jvm.ClassFile.FieldType.int)) 0 [.int a0] Q := by
  refine P_meti (by decide +kernel) (Nat.le_of_ble_eq_true rfl) ?_
  intro p e s m below meth c Z ls hx hb hml hown ht hret hl
  have hl : lv_has ls 3 [(0, .int a0)] := hl
  change ∃ n0x, wpl_X9_countCodes_4 a0 Q n0x (0 : Int32) (1 : Int32) at h
  refine lv_iconst (v := (1 : Int32)) hx hb dX9_countCodes_0 (by decide) ?_
  refine lv_istore_n (lv' := [(1, .int (1 : Int32)), (0, .int a0)]) hx hb dX9_countCodes_1 rfl hl (by decide) rfl (fun ls hl => ?_)
  refine lv_iconst (v := (0 : Int32)) hx hb dX9_countCodes_2 (by decide) ?_
  refine lv_istore_n (lv' := [(2, .int (0 : Int32)), (1, .int (1 : Int32)), (0, .int a0)]) hx hb dX9_countCodes_3 rfl hl (by decide) rfl (fun ls hl => ?_)
  obtain ⟨n6, h⟩ := h
  have L0 : ∀ (v4 : Int32), ∀ (n : Nat) (v2 : Int32) (v3 : Int32) (ls : Array Slot), lv_has ls 3 [(2, .int v2), (1, .int v3), (0, .int v4)] → wpl_X9_countCodes_4 v4 Q n v2 v3 → W p l e (RM 0) s m #[.int a0] below meth c s.heap [] 0 0 Z (F0 m 4 ls []) := by
    intro v4
    intro n
    induction n with
    | zero => intro v2 v3 ls hl h; exact False.elim h
    | succ n ih0 =>
      intro v2 v3 ls hl h
      change (v4 ≤ v2 → (Q v3)) ∧ (¬ v4 ≤ v2 → (wpl_X9_countCodes_4 v4 Q n (v2 + (1 : Int32)) (v3 * (3 : Int32)))) at h
      refine lv_iload_n hx hb dX9_countCodes_4 rfl (lv_at hl 0 rfl) ?_
      refine lv_iload_n hx hb dX9_countCodes_5 rfl (lv_at hl 2 rfl) ?_
      refine lv_icmp_ge (tgt := 19) hx hb dX9_countCodes_6 (by decide) (fun c5 => ?_) (fun c5 => ?_)
      · have h := h.1 c5
        refine lv_iload_n hx hb dX9_countCodes_19 rfl (lv_at hl 1 rfl) ?_
        exact hret ls 20 _ h rfl dX9_countCodes_20
      have h := h.2 c5
      refine lv_iload_n hx hb dX9_countCodes_9 rfl (lv_at hl 1 rfl) ?_
      refine lv_iconst (v := (3 : Int32)) hx hb dX9_countCodes_10 (by decide) ?_
      refine lv_imul hx hb dX9_countCodes_11 ?_
      refine lv_istore_n (lv' := [(1, .int (v3 * (3 : Int32))), (2, .int v2), (0, .int v4)]) hx hb dX9_countCodes_12 rfl hl (by decide) rfl (fun ls hl => ?_)
      refine lv_iinc (v := (v2 + (1 : Int32))) (lv' := [(2, .int (v2 + (1 : Int32))), (1, .int (v3 * (3 : Int32))), (0, .int v4)]) hx hb dX9_countCodes_13 hl (k := 1) rfl rfl (by decide) rfl (fun ls hl => ?_)
      refine lv_goto (tgt := 4) hx hb dX9_countCodes_16 (by decide) ?_
      exact ih0 (v2 + (1 : Int32)) (v3 * (3 : Int32)) ls (lv_sub hl [0, 1, 2] rfl) h
  exact L0 a0 n6 (0 : Int32) (1 : Int32) ls (lv_sub hl [0, 1, 2] rfl) h
def wp_X9_isIn (a0 : Int32) (a1 : Int32) (Q : Int32 → Prop) : Prop :=
  (((a0 >>> (a1 &&& 31)) &&& (1 : Int32)) = 0 → (Q (0 : Int32))) ∧ (¬ ((a0 >>> (a1 &&& 31)) &&& (1 : Int32)) = 0 → (Q (1 : Int32)))
set_option maxHeartbeats 4000000 in
set_option maxRecDepth 100000 in
theorem c_X9_isIn {l : Launch} (a0 : Int32) (a1 : Int32) {Q : Int32 → Prop} (h : wp_X9_isIn a0 a1 Q) : PMi l yX9_isIn (.code yX9_isIn cX9_isIn 2 (Option.some Jvm.ClassFile.FieldType.boolean)) 0 [.int a0, .int a1] Q := by
  refine P_meti (by decide +kernel) (Nat.le_of_ble_eq_true rfl) ?_
  intro p e s m below meth c Z ls hx hb hml hown ht hret hl
  have hl : lv_has ls 2 [(0, .int a0), (1, .int a1)] := hl
  change (((a0 >>> (a1 &&& 31)) &&& (1 : Int32)) = 0 → (Q (0 : Int32))) ∧ (¬ ((a0 >>> (a1 &&& 31)) &&& (1 : Int32)) = 0 → (Q (1 : Int32))) at h
  refine lv_iload_n hx hb dX9_isIn_0 rfl (lv_at hl 0 rfl) ?_
  refine lv_iload_n hx hb dX9_isIn_1 rfl (lv_at hl 1 rfl) ?_
  refine lv_ishr hx hb dX9_isIn_2 ?_
  refine lv_iconst (v := (1 : Int32)) hx hb dX9_isIn_3 (by decide) ?_
  refine lv_iand hx hb dX9_isIn_4 ?_
  refine lv_if_eq (tgt := 12) hx hb dX9_isIn_5 (by decide) (fun c1 => ?_) (fun c1 => ?_)
  · have h := h.1 c1
    refine lv_iconst (v := (0 : Int32)) hx hb dX9_isIn_12 (by decide) ?_
    exact hret ls 13 _ h rfl dX9_isIn_13
  have h := h.2 c1
  refine lv_iconst (v := (1 : Int32)) hx hb dX9_isIn_8 (by decide) ?_
  refine lv_goto (tgt := 13) hx hb dX9_isIn_9 (by decide) ?_
  exact hret ls 13 _ h rfl dX9_isIn_13
def wp_X9_withOrWithout (a0 : Int32) (a1 : Int32) (a2 : Int32) (Q : Int32 → Prop) : Prop :=
  (a2 = 0 → (Q (a0 &&& (((1 : Int32) <<< (a1 &&& 31)) ^^^ (-1 : Int32))))) ∧ (¬ a2 = 0 → (Q (a0 ||| ((1 : Int32) <<< (a1 &&& 31)))))
set_option maxHeartbeats 4000000 in
set_option maxRecDepth 100000 in
theorem c_X9_withOrWithout {l : Launch} (a0 : Int32) (a1 : Int32) (a2 : Int32) {Q : Int32 → Prop} (h : wp_X9_withOrWithout a0 a1 a2 Q) : PMi l yX9_withOrWithout (.code yX9_withOrWithout cX9_withOrWithout 3 (Option.some Jvm.ClassFile.FieldType.int)) 0 [.int a0, .int a1, .int a2] Q := by
  refine P_meti (by decide +kernel) (Nat.le_of_ble_eq_true rfl) ?_
  intro p e s m below meth c Z ls hx hb hml hown ht hret hl
  have hl : lv_has ls 3 [(0, .int a0), (1, .int a1), (2, .int a2)] := hl
  change (a2 = 0 → (Q (a0 &&& (((1 : Int32) <<< (a1 &&& 31)) ^^^ (-1 : Int32))))) ∧ (¬ a2 = 0 → (Q (a0 ||| ((1 : Int32) <<< (a1 &&& 31))))) at h
  refine lv_iload_n hx hb dX9_withOrWithout_0 rfl (lv_at hl 2 rfl) ?_
  refine lv_if_eq (tgt := 12) hx hb dX9_withOrWithout_1 (by decide) (fun c1 => ?_) (fun c1 => ?_)
  · have h := h.1 c1
    refine lv_iload_n hx hb dX9_withOrWithout_12 rfl (lv_at hl 0 rfl) ?_
    refine lv_iconst (v := (1 : Int32)) hx hb dX9_withOrWithout_13 (by decide) ?_
    refine lv_iload_n hx hb dX9_withOrWithout_14 rfl (lv_at hl 1 rfl) ?_
    refine lv_ishl hx hb dX9_withOrWithout_15 ?_
    refine lv_iconst (v := (-1 : Int32)) hx hb dX9_withOrWithout_16 (by decide) ?_
    refine lv_ixor hx hb dX9_withOrWithout_17 ?_
    refine lv_iand hx hb dX9_withOrWithout_18 ?_
    exact hret ls 19 _ h rfl dX9_withOrWithout_19
  have h := h.2 c1
  refine lv_iload_n hx hb dX9_withOrWithout_4 rfl (lv_at hl 0 rfl) ?_
  refine lv_iconst (v := (1 : Int32)) hx hb dX9_withOrWithout_5 (by decide) ?_
  refine lv_iload_n hx hb dX9_withOrWithout_6 rfl (lv_at hl 1 rfl) ?_
  refine lv_ishl hx hb dX9_withOrWithout_7 ?_
  refine lv_ior hx hb dX9_withOrWithout_8 ?_
  refine lv_goto (tgt := 19) hx hb dX9_withOrWithout_9 (by decide) ?_
  exact hret ls 19 _ h rfl dX9_withOrWithout_19
def wp_X9_letterOf (a0 : Int32) (Q : Int32 → Prop) : Prop :=
  Q ((((97 : Int32) + a0).toUInt32 % 65536).toInt32)
set_option maxHeartbeats 4000000 in
set_option maxRecDepth 100000 in
theorem c_X9_letterOf {l : Launch} (a0 : Int32) {Q : Int32 → Prop} (h : wp_X9_letterOf a0 Q) : PMi l yX9_letterOf (.code yX9_letterOf cX9_letterOf 1 (Option.some Jvm.ClassFile.FieldType.char)) 0 [.int a0] Q := by
  refine P_meti (by decide +kernel) (Nat.le_of_ble_eq_true rfl) ?_
  intro p e s m below meth c Z ls hx hb hml hown ht hret hl
  have hl : lv_has ls 1 [(0, .int a0)] := hl
  change Q ((((97 : Int32) + a0).toUInt32 % 65536).toInt32) at h
  refine lv_bipush (v := (97 : Int32)) hx hb dX9_letterOf_0 (by decide) ?_
  refine lv_iload_n hx hb dX9_letterOf_2 rfl (lv_at hl 0 rfl) ?_
  refine lv_iadd hx hb dX9_letterOf_3 ?_
  refine lv_i2c hx hb dX9_letterOf_4 rfl ?_
  exact hret ls 5 _ h (pk_nc _) dX9_letterOf_5
def wp_X9_acted (μ : TMem) (a1 : Int32) (Q : Int32 → TMem → Prop) : Prop :=
  Q a1 (tms μ 0 11 ((μ 0 11) + (1 : Int32)))
set_option maxHeartbeats 4000000 in
set_option maxRecDepth 100000 in
theorem c_X9_acted {l : Launch} {D : va_G} {ad : Nat → Nat} {cI cM : ClassId}  (μ : TMem) (sz : Nat) (a1 : Int32) {Q : Int32 → TMem → Prop} (h : wp_X9_acted μ a1 Q) : TMi l yX9_acted (.code yX9_acted cX9_acted 2 (Option.some Jvm.ClassFile.FieldType.int)) 0 [.ref (ad 0), .int a1] D ad cI cM sz μ Q := by
  refine T_meti (by decide +kernel) (Nat.le_of_ble_eq_true rfl) ?_
  intro p e s m below meth c Z ls hx hb hml hown ht hN hK hw hret hl
  have hl : lv_has ls 2 [(0, .ref (ad 0)), (1, .int a1)] := hl
  generalize s.heap = H at hw ⊢
  generalize ([] : List Loc) = locs at hw ⊢
  change Q a1 (tms μ 0 11 ((μ 0 11) + (1 : Int32))) at h
  refine lv_aload_n hx hb dX9_acted_0 rfl (lv_at hl 0 rfl) ?_
  refine lv_dup hx hb dX9_acted_1 rfl ?_
  refine gf_X9_246 hx hb ht hown hK hw rfl dX9_acted_2 ?_
  refine lv_iconst (v := (1 : Int32)) hx hb dX9_acted_5 (by decide) ?_
  refine lv_iadd hx hb dX9_acted_6 ?_
  refine pgf_X9_246 hx hb ht hown hK hw rfl dX9_acted_7 (fun H locs hw => ?_)
  refine lv_iload_n hx hb dX9_acted_10 rfl (lv_at hl 1 rfl) ?_
  exact hret H locs ls 11 _ _ hw h rfl dX9_acted_11
def wp_X9_refuse (μ : TMem) (Q : Int32 → TMem → Prop) : Prop :=
  Q (-9 : Int32) (tms μ 0 12 ((μ 0 12) + (1 : Int32)))
set_option maxHeartbeats 4000000 in
set_option maxRecDepth 100000 in
theorem c_X9_refuse {l : Launch} {D : va_G} {ad : Nat → Nat} {cI cM : ClassId}  (μ : TMem) (sz : Nat)  {Q : Int32 → TMem → Prop} (h : wp_X9_refuse μ Q) : TMi l yX9_refuse (.code yX9_refuse cX9_refuse 1 (Option.some Jvm.ClassFile.FieldType.int)) 0 [.ref (ad 0)] D ad cI cM sz μ Q := by
  refine T_meti (by decide +kernel) (Nat.le_of_ble_eq_true rfl) ?_
  intro p e s m below meth c Z ls hx hb hml hown ht hN hK hw hret hl
  have hl : lv_has ls 1 [(0, .ref (ad 0))] := hl
  generalize s.heap = H at hw ⊢
  generalize ([] : List Loc) = locs at hw ⊢
  change Q (-9 : Int32) (tms μ 0 12 ((μ 0 12) + (1 : Int32))) at h
  refine lv_aload_n hx hb dX9_refuse_0 rfl (lv_at hl 0 rfl) ?_
  refine lv_dup hx hb dX9_refuse_1 rfl ?_
  refine gf_X9_249 hx hb ht hown hK hw rfl dX9_refuse_2 ?_
  refine lv_iconst (v := (1 : Int32)) hx hb dX9_refuse_5 (by decide) ?_
  refine lv_iadd hx hb dX9_refuse_6 ?_
  refine pgf_X9_249 hx hb ht hown hK hw rfl dX9_refuse_7 (fun H locs hw => ?_)
  refine lv_bipush (v := (-9 : Int32)) hx hb dX9_refuse_10 (by decide) ?_
  exact hret H locs ls 12 _ _ hw h rfl dX9_refuse_12
def wp_X7_at (k0 : Nat) (μ : TMem) (a1 : Int32) (a2 : Int32) (Q : Int32 → Prop) : Prop :=
  (((a1 * (3 : Int32)) + a2) < 0 → (Q (0 : Int32))) ∧ (¬ ((a1 * (3 : Int32)) + a2) < 0 → (((nI (tl (k0 + 1))) ≤ ((a1 * (3 : Int32)) + a2) → (Q (0 : Int32))) ∧ (¬ (nI (tl (k0 + 1))) ≤ ((a1 * (3 : Int32)) + a2) → (vp_in ((a1 * (3 : Int32)) + a2) (tl (k0 + 1)) ∧ (Q (μ (k0 + 1) ((a1 * (3 : Int32)) + a2).toNatClampNeg))))))
set_option maxHeartbeats 4000000 in
set_option maxRecDepth 100000 in
theorem c_X7_at_2 {l : Launch} {D : va_G} {ad : Nat → Nat} {cI cM : ClassId} (k0 : Nat) (hk0 : kd k0 = 2) (μ : TMem) (sz : Nat) (a1 : Int32) (a2 : Int32) {Q : Int32 → Prop} (h : wp_X7_at k0 μ a1 a2 Q) : TMi l yX7_at (.code yX7_at cX7_at 4 (Option.some Jvm.ClassFile.FieldType.int)) 0 [.ref (ad k0), .int a1, .int a2] D ad cI cM sz μ (fun r μ1 => μ1 = μ ∧ Q r) := by
  refine T_meti (by decide +kernel) (Nat.le_of_ble_eq_true rfl) ?_
  intro p e s m below meth c Z ls hx hb hml hown ht hN hK hw hret hl
  have hl : lv_has ls 4 [(0, .ref (ad k0)), (1, .int a1), (2, .int a2)] := hl
  generalize s.heap = H at hw ⊢
  generalize ([] : List Loc) = locs at hw ⊢
  change (((a1 * (3 : Int32)) + a2) < 0 → (Q (0 : Int32))) ∧ (¬ ((a1 * (3 : Int32)) + a2) < 0 → (((nI (tl (k0 + 1))) ≤ ((a1 * (3 : Int32)) + a2) → (Q (0 : Int32))) ∧ (¬ (nI (tl (k0 + 1))) ≤ ((a1 * (3 : Int32)) + a2) → (vp_in ((a1 * (3 : Int32)) + a2) (tl (k0 + 1)) ∧ (Q (μ (k0 + 1) ((a1 * (3 : Int32)) + a2).toNatClampNeg)))))) at h
  refine lv_iload_n hx hb dX7_at_0 rfl (lv_at hl 1 rfl) ?_
  refine lv_iconst (v := (3 : Int32)) hx hb dX7_at_1 (by decide) ?_
  refine lv_imul hx hb dX7_at_2 ?_
  refine lv_iload_n hx hb dX7_at_3 rfl (lv_at hl 2 rfl) ?_
  refine lv_iadd hx hb dX7_at_4 ?_
  refine lv_istore_n (lv' := [(3, .int ((a1 * (3 : Int32)) + a2)), (0, .ref (ad k0)), (1, .int a1), (2, .int a2)]) hx hb dX7_at_5 rfl hl (by decide) rfl (fun ls hl => ?_)
  refine lv_iload_n hx hb dX7_at_6 rfl (lv_at hl 0 rfl) ?_
  refine lv_if_lt (tgt := 28) hx hb dX7_at_7 (by decide) (fun c1 => ?_) (fun c1 => ?_)
  · have h := h.1 c1
    refine lv_iconst (v := (0 : Int32)) hx hb dX7_at_28 (by decide) ?_
    exact hret H locs ls 29 _ _ hw ⟨rfl, h⟩ rfl dX7_at_29
  have h := h.2 c1
  refine lv_iload_n hx hb dX7_at_10 rfl (lv_at hl 0 rfl) ?_
  refine lv_aload_n hx hb dX7_at_11 rfl (lv_at hl 1 rfl) ?_
  refine gf_X7_15 hx hb ht hown hK hw (Or.inl hk0) dX7_at_12 ?_
  refine t_alen hx hb hK hw (ka_2 hk0) dX7_at_15 ?_
  refine lv_icmp_ge (tgt := 28) hx hb dX7_at_16 (by decide) (fun c2 => ?_) (fun c2 => ?_)
  · have h := h.1 c2
    refine lv_iconst (v := (0 : Int32)) hx hb dX7_at_28 (by decide) ?_
    exact hret H locs ls 29 _ _ hw ⟨rfl, h⟩ rfl dX7_at_29
  have h := h.2 c2
  refine lv_aload_n hx hb dX7_at_19 rfl (lv_at hl 1 rfl) ?_
  refine gf_X7_15 hx hb ht hown hK hw (Or.inl hk0) dX7_at_20 ?_
  refine lv_iload_n hx hb dX7_at_23 rfl (lv_at hl 0 rfl) ?_
  obtain ⟨z3, h⟩ := h
  refine t_iald hx hb hK hw (ka_2 hk0) z3 dX7_at_24 ?_
  refine lv_goto (tgt := 29) hx hb dX7_at_25 (by decide) ?_
  exact hret H locs ls 29 _ _ hw ⟨rfl, h⟩ rfl dX7_at_29
set_option maxHeartbeats 4000000 in
set_option maxRecDepth 100000 in
theorem c_X7_at_5 {l : Launch} {D : va_G} {ad : Nat → Nat} {cI cM : ClassId} (k0 : Nat) (hk0 : kd k0 = 5) (μ : TMem) (sz : Nat) (a1 : Int32) (a2 : Int32) {Q : Int32 → Prop} (h : wp_X7_at k0 μ a1 a2 Q) : TMi l yX7_at (.code yX7_at cX7_at 4 (Option.some Jvm.ClassFile.FieldType.int)) 0 [.ref (ad k0), .int a1, .int a2] D ad cI cM sz μ (fun r μ1 => μ1 = μ ∧ Q r) := by
  refine T_meti (by decide +kernel) (Nat.le_of_ble_eq_true rfl) ?_
  intro p e s m below meth c Z ls hx hb hml hown ht hN hK hw hret hl
  have hl : lv_has ls 4 [(0, .ref (ad k0)), (1, .int a1), (2, .int a2)] := hl
  generalize s.heap = H at hw ⊢
  generalize ([] : List Loc) = locs at hw ⊢
  change (((a1 * (3 : Int32)) + a2) < 0 → (Q (0 : Int32))) ∧ (¬ ((a1 * (3 : Int32)) + a2) < 0 → (((nI (tl (k0 + 1))) ≤ ((a1 * (3 : Int32)) + a2) → (Q (0 : Int32))) ∧ (¬ (nI (tl (k0 + 1))) ≤ ((a1 * (3 : Int32)) + a2) → (vp_in ((a1 * (3 : Int32)) + a2) (tl (k0 + 1)) ∧ (Q (μ (k0 + 1) ((a1 * (3 : Int32)) + a2).toNatClampNeg)))))) at h
  refine lv_iload_n hx hb dX7_at_0 rfl (lv_at hl 1 rfl) ?_
  refine lv_iconst (v := (3 : Int32)) hx hb dX7_at_1 (by decide) ?_
  refine lv_imul hx hb dX7_at_2 ?_
  refine lv_iload_n hx hb dX7_at_3 rfl (lv_at hl 2 rfl) ?_
  refine lv_iadd hx hb dX7_at_4 ?_
  refine lv_istore_n (lv' := [(3, .int ((a1 * (3 : Int32)) + a2)), (0, .ref (ad k0)), (1, .int a1), (2, .int a2)]) hx hb dX7_at_5 rfl hl (by decide) rfl (fun ls hl => ?_)
  refine lv_iload_n hx hb dX7_at_6 rfl (lv_at hl 0 rfl) ?_
  refine lv_if_lt (tgt := 28) hx hb dX7_at_7 (by decide) (fun c1 => ?_) (fun c1 => ?_)
  · have h := h.1 c1
    refine lv_iconst (v := (0 : Int32)) hx hb dX7_at_28 (by decide) ?_
    exact hret H locs ls 29 _ _ hw ⟨rfl, h⟩ rfl dX7_at_29
  have h := h.2 c1
  refine lv_iload_n hx hb dX7_at_10 rfl (lv_at hl 0 rfl) ?_
  refine lv_aload_n hx hb dX7_at_11 rfl (lv_at hl 1 rfl) ?_
  refine gf_X7_15 hx hb ht hown hK hw (Or.inr hk0) dX7_at_12 ?_
  refine t_alen hx hb hK hw (ka_5 hk0) dX7_at_15 ?_
  refine lv_icmp_ge (tgt := 28) hx hb dX7_at_16 (by decide) (fun c2 => ?_) (fun c2 => ?_)
  · have h := h.1 c2
    refine lv_iconst (v := (0 : Int32)) hx hb dX7_at_28 (by decide) ?_
    exact hret H locs ls 29 _ _ hw ⟨rfl, h⟩ rfl dX7_at_29
  have h := h.2 c2
  refine lv_aload_n hx hb dX7_at_19 rfl (lv_at hl 1 rfl) ?_
  refine gf_X7_15 hx hb ht hown hK hw (Or.inr hk0) dX7_at_20 ?_
  refine lv_iload_n hx hb dX7_at_23 rfl (lv_at hl 0 rfl) ?_
  obtain ⟨z3, h⟩ := h
  refine t_iald hx hb hK hw (ka_5 hk0) z3 dX7_at_24 ?_
  refine lv_goto (tgt := 29) hx hb dX7_at_25 (by decide) ?_
  exact hret H locs ls 29 _ _ hw ⟨rfl, h⟩ rfl dX7_at_29
def wp_X7_put (k0 : Nat) (μ : TMem) (a1 : Int32) (a2 : Int32) (a3 : Int32) (Q : TMem → Prop) : Prop :=
  (((a1 * (3 : Int32)) + a2) < 0 → (Q μ)) ∧ (¬ ((a1 * (3 : Int32)) + a2) < 0 → (((nI (tl (k0 + 1))) ≤ ((a1 * (3 : Int32)) + a2) → (Q μ)) ∧ (¬ (nI (tl (k0 + 1))) ≤ ((a1 * (3 : Int32)) + a2) → (vp_in ((a1 * (3 : Int32)) + a2) (tl (k0 + 1)) ∧ (Q (tms μ (k0 + 1) ((a1 * (3 : Int32)) + a2).toNatClampNeg a3))))))
set_option maxHeartbeats 4000000 in
set_option maxRecDepth 100000 in
theorem c_X7_put_2 {l : Launch} {D : va_G} {ad : Nat → Nat} {cI cM : ClassId} (k0 : Nat) (hk0 : kd k0 = 2) (μ : TMem) (sz : Nat) (a1 : Int32) (a2 : Int32) (a3 : Int32) {Q : TMem → Prop} (h : wp_X7_put k0 μ a1 a2 a3 Q) : TMv l yX7_put (.code yX7_put cX7_put 5 (Option.none : Option Jvm.ClassFile.FieldType)) 0 [.ref (ad k0), .int a1, .int a2, .int a3] D ad cI cM sz μ Q := by
  refine T_metv (by decide +kernel) (Nat.le_of_ble_eq_true rfl) ?_
  intro p e s m below meth c Z ls hx hb hml hown ht hN hK hw hret hl
  have hl : lv_has ls 5 [(0, .ref (ad k0)), (1, .int a1), (2, .int a2), (3, .int a3)] := hl
  generalize s.heap = H at hw ⊢
  generalize ([] : List Loc) = locs at hw ⊢
  change (((a1 * (3 : Int32)) + a2) < 0 → (Q μ)) ∧ (¬ ((a1 * (3 : Int32)) + a2) < 0 → (((nI (tl (k0 + 1))) ≤ ((a1 * (3 : Int32)) + a2) → (Q μ)) ∧ (¬ (nI (tl (k0 + 1))) ≤ ((a1 * (3 : Int32)) + a2) → (vp_in ((a1 * (3 : Int32)) + a2) (tl (k0 + 1)) ∧ (Q (tms μ (k0 + 1) ((a1 * (3 : Int32)) + a2).toNatClampNeg a3)))))) at h
  refine lv_iload_n hx hb dX7_put_0 rfl (lv_at hl 1 rfl) ?_
  refine lv_iconst (v := (3 : Int32)) hx hb dX7_put_1 (by decide) ?_
  refine lv_imul hx hb dX7_put_2 ?_
  refine lv_iload_n hx hb dX7_put_3 rfl (lv_at hl 2 rfl) ?_
  refine lv_iadd hx hb dX7_put_4 ?_
  refine lv_istore (lv' := [(4, .int ((a1 * (3 : Int32)) + a2)), (0, .ref (ad k0)), (1, .int a1), (2, .int a2), (3, .int a3)]) hx hb dX7_put_5 hl (by decide) rfl (fun ls hl => ?_)
  refine lv_iload hx hb dX7_put_7 (lv_at hl 0 rfl) ?_
  refine lv_if_lt (tgt := 30) hx hb dX7_put_9 (by decide) (fun c1 => ?_) (fun c1 => ?_)
  · have h := h.1 c1
    exact hret H locs ls 30 _ hw h dX7_put_30
  have h := h.2 c1
  refine lv_iload hx hb dX7_put_12 (lv_at hl 0 rfl) ?_
  refine lv_aload_n hx hb dX7_put_14 rfl (lv_at hl 1 rfl) ?_
  refine gf_X7_15 hx hb ht hown hK hw (Or.inl hk0) dX7_put_15 ?_
  refine t_alen hx hb hK hw (ka_2 hk0) dX7_put_18 ?_
  refine lv_icmp_ge (tgt := 30) hx hb dX7_put_19 (by decide) (fun c2 => ?_) (fun c2 => ?_)
  · have h := h.1 c2
    exact hret H locs ls 30 _ hw h dX7_put_30
  have h := h.2 c2
  refine lv_aload_n hx hb dX7_put_22 rfl (lv_at hl 1 rfl) ?_
  refine gf_X7_15 hx hb ht hown hK hw (Or.inl hk0) dX7_put_23 ?_
  refine lv_iload hx hb dX7_put_26 (lv_at hl 0 rfl) ?_
  refine lv_iload_n hx hb dX7_put_28 rfl (lv_at hl 4 rfl) ?_
  obtain ⟨z3, h⟩ := h
  refine t_iast hx hb hK hw (ka_2 hk0) z3 dX7_put_29 (fun H locs hw => ?_)
  exact hret H locs ls 30 _ hw h dX7_put_30
set_option maxHeartbeats 4000000 in
set_option maxRecDepth 100000 in
theorem c_X7_put_5 {l : Launch} {D : va_G} {ad : Nat → Nat} {cI cM : ClassId} (k0 : Nat) (hk0 : kd k0 = 5) (μ : TMem) (sz : Nat) (a1 : Int32) (a2 : Int32) (a3 : Int32) {Q : TMem → Prop} (h : wp_X7_put k0 μ a1 a2 a3 Q) : TMv l yX7_put (.code yX7_put cX7_put 5 (Option.none : Option Jvm.ClassFile.FieldType)) 0 [.ref (ad k0), .int a1, .int a2, .int a3] D ad cI cM sz μ Q := by
  refine T_metv (by decide +kernel) (Nat.le_of_ble_eq_true rfl) ?_
  intro p e s m below meth c Z ls hx hb hml hown ht hN hK hw hret hl
  have hl : lv_has ls 5 [(0, .ref (ad k0)), (1, .int a1), (2, .int a2), (3, .int a3)] := hl
  generalize s.heap = H at hw ⊢
  generalize ([] : List Loc) = locs at hw ⊢
  change (((a1 * (3 : Int32)) + a2) < 0 → (Q μ)) ∧ (¬ ((a1 * (3 : Int32)) + a2) < 0 → (((nI (tl (k0 + 1))) ≤ ((a1 * (3 : Int32)) + a2) → (Q μ)) ∧ (¬ (nI (tl (k0 + 1))) ≤ ((a1 * (3 : Int32)) + a2) → (vp_in ((a1 * (3 : Int32)) + a2) (tl (k0 + 1)) ∧ (Q (tms μ (k0 + 1) ((a1 * (3 : Int32)) + a2).toNatClampNeg a3)))))) at h
  refine lv_iload_n hx hb dX7_put_0 rfl (lv_at hl 1 rfl) ?_
  refine lv_iconst (v := (3 : Int32)) hx hb dX7_put_1 (by decide) ?_
  refine lv_imul hx hb dX7_put_2 ?_
  refine lv_iload_n hx hb dX7_put_3 rfl (lv_at hl 2 rfl) ?_
  refine lv_iadd hx hb dX7_put_4 ?_
  refine lv_istore (lv' := [(4, .int ((a1 * (3 : Int32)) + a2)), (0, .ref (ad k0)), (1, .int a1), (2, .int a2), (3, .int a3)]) hx hb dX7_put_5 hl (by decide) rfl (fun ls hl => ?_)
  refine lv_iload hx hb dX7_put_7 (lv_at hl 0 rfl) ?_
  refine lv_if_lt (tgt := 30) hx hb dX7_put_9 (by decide) (fun c1 => ?_) (fun c1 => ?_)
  · have h := h.1 c1
    exact hret H locs ls 30 _ hw h dX7_put_30
  have h := h.2 c1
  refine lv_iload hx hb dX7_put_12 (lv_at hl 0 rfl) ?_
  refine lv_aload_n hx hb dX7_put_14 rfl (lv_at hl 1 rfl) ?_
  refine gf_X7_15 hx hb ht hown hK hw (Or.inr hk0) dX7_put_15 ?_
  refine t_alen hx hb hK hw (ka_5 hk0) dX7_put_18 ?_
  refine lv_icmp_ge (tgt := 30) hx hb dX7_put_19 (by decide) (fun c2 => ?_) (fun c2 => ?_)
  · have h := h.1 c2
    exact hret H locs ls 30 _ hw h dX7_put_30
  have h := h.2 c2
  refine lv_aload_n hx hb dX7_put_22 rfl (lv_at hl 1 rfl) ?_
  refine gf_X7_15 hx hb ht hown hK hw (Or.inr hk0) dX7_put_23 ?_
  refine lv_iload hx hb dX7_put_26 (lv_at hl 0 rfl) ?_
  refine lv_iload_n hx hb dX7_put_28 rfl (lv_at hl 4 rfl) ?_
  obtain ⟨z3, h⟩ := h
  refine t_iast hx hb hK hw (ka_5 hk0) z3 dX7_put_29 (fun H locs hw => ?_)
  exact hret H locs ls 30 _ hw h dX7_put_30
def wpl_X2_becomePlain_33 (k0 : Nat) (k1 : Nat) (v7 : Int32) (K58 : TMem → Prop) : Nat → Int32 → TMem → Prop
  | 0, _, _ => False
  | n + 1, v6, μ8 =>
    ((3 : Int32) ≤ v6 → (K58 μ8)) ∧ (¬ (3 : Int32) ≤ v6 → (wp_X7_at k1 μ8 v7 v6 (fun (r10 : Int32) => wp_X7_put k0 μ8 v7 v6 ((1 : Int32) <<< (r10 &&& 31)) (fun (μ13 : TMem) => wpl_X2_becomePlain_33 k0 k1 v7 K58 n (v6 + (1 : Int32)) μ13))))
def wpl_X2_becomePlain_23 (k0 : Nat) (k1 : Nat) (Q : TMem → Prop) : Nat → Int32 → TMem → Prop
  | 0, _, _ => False
  | n + 1, v2, μ3 =>
    ((μ3 k0 1) ≤ v2 → (Q μ3)) ∧ (¬ (μ3 k0 1) ≤ v2 → (∃ n4x, wpl_X2_becomePlain_33 k0 k1 v2 (fun (μ15 : TMem) => wpl_X2_becomePlain_23 k0 k1 Q n (v2 + (1 : Int32)) μ15) n4x (0 : Int32) μ3))
def wp_X2_becomePlain (k0 : Nat) (k1 : Nat) (μ : TMem) (Q : TMem → Prop) : Prop :=
  ∃ n0x, wpl_X2_becomePlain_23 k0 k1 Q n0x (0 : Int32) (tms (tms (tms μ k0 1 (μ k1 1)) k0 3 (1 : Int32)) k0 2 ((tms (tms μ k0 1 (μ k1 1)) k0 3 (1 : Int32)) k1 2))
set_option maxHeartbeats 4000000 in
set_option maxRecDepth 100000 in
theorem c_X2_becomePlain {l : Launch} {D : va_G} {ad : Nat → Nat} {cI cM : ClassId} (k0 : Nat) (hk0 : kd k0 = 2) (k1 : Nat) (hk1 : kd k1 = 5) (μ : TMem) (sz : Nat)  {Q : TMem → Prop} (h : wp_X2_becomePlain k0 k1 μ Q) : TMv l yX2_becomePlain (.code yX2_becomePlain cX2_becomePlain 4 (Option.none : Option Jvm.ClassFile.FieldType)) 1 [.ref (ad k0), .ref (ad k1)] D ad cI cM sz μ Q := by
  refine T_metv (by decide +kernel) (Nat.le_of_ble_eq_true rfl) ?_
  intro p e s m below meth c Z ls hx hb hml hown ht hN hK hw hret hl
  have hl : lv_has ls 4 [(0, .ref (ad k0)), (1, .ref (ad k1))] := hl
  generalize s.heap = H at hw ⊢
  generalize ([] : List Loc) = locs at hw ⊢
  change ∃ n0x, wpl_X2_becomePlain_23 k0 k1 Q n0x (0 : Int32) (tms (tms (tms μ k0 1 (μ k1 1)) k0 3 (1 : Int32)) k0 2 ((tms (tms μ k0 1 (μ k1 1)) k0 3 (1 : Int32)) k1 2)) at h
  refine lv_aload_n hx hb dX2_becomePlain_0 rfl (lv_at hl 0 rfl) ?_
  refine lv_aload_n hx hb dX2_becomePlain_1 rfl (lv_at hl 1 rfl) ?_
  refine gf_X2_57 hx hb ht hown hK hw hk1 dX2_becomePlain_2 ?_
  refine pgf_X2_15 hx hb ht hown hK hw hk0 dX2_becomePlain_5 (fun H locs hw => ?_)
  refine lv_aload_n hx hb dX2_becomePlain_8 rfl (lv_at hl 0 rfl) ?_
  refine lv_iconst (v := (1 : Int32)) hx hb dX2_becomePlain_9 (by decide) ?_
  refine pgf_X2_9 hx hb ht hown hK hw hk0 dX2_becomePlain_10 (fun H locs hw => ?_)
  refine lv_aload_n hx hb dX2_becomePlain_13 rfl (lv_at hl 0 rfl) ?_
  refine lv_aload_n hx hb dX2_becomePlain_14 rfl (lv_at hl 1 rfl) ?_
  refine gf_X2_60 hx hb ht hown hK hw hk1 dX2_becomePlain_15 ?_
  refine pgf_X2_18 hx hb ht hown hK hw hk0 dX2_becomePlain_18 (fun H locs hw => ?_)
  refine lv_iconst (v := (0 : Int32)) hx hb dX2_becomePlain_21 (by decide) ?_
  refine lv_istore_n (lv' := [(2, .int (0 : Int32)), (0, .ref (ad k0)), (1, .ref (ad k1))]) hx hb dX2_becomePlain_22 rfl hl (by decide) rfl (fun ls hl => ?_)
  obtain ⟨n16, h⟩ := h
  have L0 : ∀ (n : Nat) (v2 : Int32) (μ3 : TMem) (H : Heap) (locs : List Loc) (ls : Array Slot), TW D ad cI cM s μ3 H locs → lv_has ls 4 [(2, .int v2), (0, .ref (ad k0)), (1, .ref (ad k1))] → wpl_X2_becomePlain_23 k0 k1 Q n v2 μ3 → W p l e (RM 1) s m #[.ref (ad k0), .ref (ad k1)] below meth c H locs 0 0 Z (F0 m 23 ls []) := by
    intro n
    induction n with
    | zero => intro v2 μ3 H locs ls hw hl h; exact False.elim h
    | succ n ih0 =>
      intro v2 μ3 H locs ls hw hl h
      change ((μ3 k0 1) ≤ v2 → (Q μ3)) ∧ (¬ (μ3 k0 1) ≤ v2 → (∃ n4x, wpl_X2_becomePlain_33 k0 k1 v2 (fun (μ15 : TMem) => wpl_X2_becomePlain_23 k0 k1 Q n (v2 + (1 : Int32)) μ15) n4x (0 : Int32) μ3)) at h
      refine lv_iload_n hx hb dX2_becomePlain_23 rfl (lv_at hl 0 rfl) ?_
      refine lv_aload_n hx hb dX2_becomePlain_24 rfl (lv_at hl 1 rfl) ?_
      refine gf_X2_15 hx hb ht hown hK hw hk0 dX2_becomePlain_25 ?_
      refine lv_icmp_ge (tgt := 64) hx hb dX2_becomePlain_28 (by decide) (fun c4 => ?_) (fun c4 => ?_)
      · have h := h.1 c4
        exact hret H locs ls 64 _ hw h dX2_becomePlain_64
      have h := h.2 c4
      refine lv_iconst (v := (0 : Int32)) hx hb dX2_becomePlain_31 (by decide) ?_
      refine lv_istore_n (lv' := [(3, .int (0 : Int32)), (2, .int v2), (0, .ref (ad k0)), (1, .ref (ad k1))]) hx hb dX2_becomePlain_32 rfl hl (by decide) rfl (fun ls hl => ?_)
      obtain ⟨n14, h⟩ := h
      have L4 : ∀ (v7 : Int32) (K58 : TMem → Prop), (∀ (μ8 : TMem) (H : Heap) (locs : List Loc) (ls : Array Slot), TW D ad cI cM s μ8 H locs → lv_has ls 4 [(2, .int v7), (0, .ref (ad k0)), (1, .ref (ad k1))] → K58 μ8 → W p l e (RM 1) s m #[.ref (ad k0), .ref (ad k1)] below meth c H locs 0 0 Z (F0 m 58 ls [])) → ∀ (n : Nat) (v6 : Int32) (μ8 : TMem) (H : Heap) (locs : List Loc) (ls : Array Slot), TW D ad cI cM s μ8 H locs → lv_has ls 4 [(3, .int v6), (2, .int v7), (0, .ref (ad k0)), (1, .ref (ad k1))] → wpl_X2_becomePlain_33 k0 k1 v7 K58 n v6 μ8 → W p l e (RM 1) s m #[.ref (ad k0), .ref (ad k1)] below meth c H locs 0 0 Z (F0 m 33 ls []) := by
        intro v7 K58 hK58
        intro n
        induction n with
        | zero => intro v6 μ8 H locs ls hw hl h; exact False.elim h
        | succ n ih4 =>
          intro v6 μ8 H locs ls hw hl h
          change ((3 : Int32) ≤ v6 → (K58 μ8)) ∧ (¬ (3 : Int32) ≤ v6 → (wp_X7_at k1 μ8 v7 v6 (fun (r10 : Int32) => wp_X7_put k0 μ8 v7 v6 ((1 : Int32) <<< (r10 &&& 31)) (fun (μ13 : TMem) => wpl_X2_becomePlain_33 k0 k1 v7 K58 n (v6 + (1 : Int32)) μ13)))) at h
          refine lv_iload_n hx hb dX2_becomePlain_33 rfl (lv_at hl 0 rfl) ?_
          refine lv_iconst (v := (3 : Int32)) hx hb dX2_becomePlain_34 (by decide) ?_
          refine lv_icmp_ge (tgt := 58) hx hb dX2_becomePlain_35 (by decide) (fun c9 => ?_) (fun c9 => ?_)
          · have h := h.1 c9
            exact hK58 μ8 H locs ls hw (lv_sub hl [1, 2, 3] rfl) h
          have h := h.2 c9
          refine lv_aload_n hx hb dX2_becomePlain_38 rfl (lv_at hl 2 rfl) ?_
          refine lv_iload_n hx hb dX2_becomePlain_39 rfl (lv_at hl 1 rfl) ?_
          refine lv_iload_n hx hb dX2_becomePlain_40 rfl (lv_at hl 0 rfl) ?_
          refine lv_iconst (v := (1 : Int32)) hx hb dX2_becomePlain_41 (by decide) ?_
          refine lv_aload_n hx hb dX2_becomePlain_42 rfl (lv_at hl 3 rfl) ?_
          refine lv_iload_n hx hb dX2_becomePlain_43 rfl (lv_at hl 1 rfl) ?_
          refine lv_iload_n hx hb dX2_becomePlain_44 rfl (lv_at hl 0 rfl) ?_
          refine T_calli hw (va_runU (own := "Leastreader$Machine") (As := [.int v7, .int v6]) (rest := [.int (1 : Int32), .int v6, .int v7, .ref (ad k0)]) ⟨hx, hb, hml, hown, ht⟩ (c_X7_at_5 k1 hk1 μ8 H.size v7 v6 h) (va_cwU (owner := "Leastreader$Table") 2 ht (G_U q_451 q_452 q_453 q_416 q_47 q_417) rfl rfl rfl rfl hd_0 ⟨Nat.le_of_ble_eq_true rfl, Nat.le_of_ble_eq_true rfl⟩) ⟨TB.blind, (T_recv hK hw (kd_of hk1 (by decide)) (ent_5 hk1) cl_5), TB.pre hK hN hw⟩ rfl rfl hl.1 rfl (lv_room (Nat.le_of_ble_eq_true rfl)) dX2_becomePlain_45 ⟨Nat.le_of_ble_eq_true rfl, Nat.le_of_ble_eq_true rfl⟩) (fun r10 μ11 H locs h hw => ?_)
          obtain ⟨e12, h⟩ := h
          rw [e12] at hw
          refine lv_ishl hx hb dX2_becomePlain_48 ?_
          refine T_callv hw (va_runU (own := "Leastreader$Machine") (As := [.int v7, .int v6, .int ((1 : Int32) <<< (r10 &&& 31))]) (rest := []) ⟨hx, hb, hml, hown, ht⟩ (c_X7_put_2 k0 hk0 μ8 H.size v7 v6 ((1 : Int32) <<< (r10 &&& 31)) h) (va_cwU (owner := "Leastreader$Table") 3 ht (G_U q_444 q_445 q_446 q_430 q_47 q_431) rfl rfl rfl rfl hd_1 ⟨Nat.le_of_ble_eq_true rfl, Nat.le_of_ble_eq_true rfl⟩) ⟨TB.blind, (T_recv hK hw (kd_of hk0 (by decide)) (ent_2 hk0) cl_2), TB.pre hK hN hw⟩ rfl rfl hl.1 rfl (lv_room (Nat.le_of_ble_eq_true rfl)) dX2_becomePlain_49 ⟨Nat.le_of_ble_eq_true rfl, Nat.le_of_ble_eq_true rfl⟩) (fun μ13 H locs h hw => ?_)
          refine lv_iinc (v := (v6 + (1 : Int32))) (lv' := [(3, .int (v6 + (1 : Int32))), (2, .int v7), (0, .ref (ad k0)), (1, .ref (ad k1))]) hx hb dX2_becomePlain_52 hl (k := 0) rfl rfl (by decide) rfl (fun ls hl => ?_)
          refine lv_goto (tgt := 33) hx hb dX2_becomePlain_55 (by decide) ?_
          exact ih4 (v6 + (1 : Int32)) μ13 H locs ls hw (lv_sub hl [0, 1, 2, 3] rfl) h
      refine L4 v2 _ ?_ n14 (0 : Int32) μ3 H locs ls hw (lv_sub hl [0, 1, 2, 3] rfl) h
      intro μ15 H locs ls hw hl h
      refine lv_iinc (v := (v2 + (1 : Int32))) (lv' := [(2, .int (v2 + (1 : Int32))), (0, .ref (ad k0)), (1, .ref (ad k1))]) hx hb dX2_becomePlain_58 hl (k := 0) rfl rfl (by decide) rfl (fun ls hl => ?_)
      refine lv_goto (tgt := 23) hx hb dX2_becomePlain_61 (by decide) ?_
      exact ih0 (v2 + (1 : Int32)) μ15 H locs ls hw (lv_sub hl [0, 1, 2] rfl) h
  exact L0 n16 (0 : Int32) (tms (tms (tms μ k0 1 (μ k1 1)) k0 3 (1 : Int32)) k0 2 ((tms (tms μ k0 1 (μ k1 1)) k0 3 (1 : Int32)) k1 2)) H locs ls hw (lv_sub hl [0, 1, 2] rfl) h
def wp_X9_becomeMade (k1 : Nat) (μ : TMem) (Q : Int32 → TMem → Prop) : Prop :=
  ((μ 57 1) ≤ (7 : Int32) → (wp_X2_becomePlain k1 57 μ (fun (μ2 : TMem) => wp_X9_acted μ2 (μ2 57 1) (fun (r4 : Int32) (μ3 : TMem) => Q r4 μ3)))) ∧ (¬ (μ 57 1) ≤ (7 : Int32) → (wp_X9_refuse μ (fun (r6 : Int32) (μ5 : TMem) => Q r6 μ5)))
set_option maxHeartbeats 4000000 in
set_option maxRecDepth 100000 in
theorem c_X9_becomeMade {l : Launch} {D : va_G} {ad : Nat → Nat} {cI cM : ClassId} (k1 : Nat) (hk1 : kd k1 = 2) (μ : TMem) (sz : Nat)  {Q : Int32 → TMem → Prop} (h : wp_X9_becomeMade k1 μ Q) : TMi l yX9_becomeMade (.code yX9_becomeMade cX9_becomeMade 2 (Option.some Jvm.ClassFile.FieldType.int)) 2 [.ref (ad 0), .ref (ad k1)] D ad cI cM sz μ Q := by
  refine T_meti (by decide +kernel) (Nat.le_of_ble_eq_true rfl) ?_
  intro p e s m below meth c Z ls hx hb hml hown ht hN hK hw hret hl
  have hl : lv_has ls 2 [(0, .ref (ad 0)), (1, .ref (ad k1))] := hl
  generalize s.heap = H at hw ⊢
  generalize ([] : List Loc) = locs at hw ⊢
  change ((μ 57 1) ≤ (7 : Int32) → (wp_X2_becomePlain k1 57 μ (fun (μ2 : TMem) => wp_X9_acted μ2 (μ2 57 1) (fun (r4 : Int32) (μ3 : TMem) => Q r4 μ3)))) ∧ (¬ (μ 57 1) ≤ (7 : Int32) → (wp_X9_refuse μ (fun (r6 : Int32) (μ5 : TMem) => Q r6 μ5))) at h
  refine lv_aload_n hx hb dX9_becomeMade_0 rfl (lv_at hl 0 rfl) ?_
  refine gf_X9_66 hx hb ht hown hK hw rfl dX9_becomeMade_1 ?_
  refine gf_X9_190 hx hb ht hown hK hw rfl dX9_becomeMade_4 ?_
  refine lv_bipush (v := (7 : Int32)) hx hb dX9_becomeMade_7 (by decide) ?_
  refine lv_icmp_le (tgt := 17) hx hb dX9_becomeMade_9 (by decide) (fun c1 => ?_) (fun c1 => ?_)
  · have h := h.1 c1
    refine lv_aload_n hx hb dX9_becomeMade_17 rfl (lv_at hl 1 rfl) ?_
    refine lv_aload_n hx hb dX9_becomeMade_18 rfl (lv_at hl 0 rfl) ?_
    refine gf_X9_66 hx hb ht hown hK hw rfl dX9_becomeMade_19 ?_
    refine T_callv hw (va_runV (own := "Leastreader") (As := [.ref (ad 57)]) (rest := []) ⟨hx, hb, hml, hown, ht⟩ (c_X2_becomePlain k1 hk1 57 rfl μ H.size h) (cwV 1 ht (G_V q_527 q_448 q_449 q_48 q_450) rfl rfl rfl ⟨rfl, hd_2⟩ ⟨Nat.le_of_ble_eq_true rfl, Nat.le_of_ble_eq_true rfl⟩) ⟨TB.blind, (T_recv hK hw (kd_of hk1 (by decide)) (ent_2 hk1) cl_2), TB.pre hK hN hw⟩ rfl rfl hl.1 rfl (lv_room (Nat.le_of_ble_eq_true rfl)) dX9_becomeMade_22 ⟨Nat.le_of_ble_eq_true rfl, Nat.le_of_ble_eq_true rfl⟩) (fun μ2 H locs h hw => ?_)
    refine lv_aload_n hx hb dX9_becomeMade_25 rfl (lv_at hl 0 rfl) ?_
    refine lv_aload_n hx hb dX9_becomeMade_26 rfl (lv_at hl 0 rfl) ?_
    refine gf_X9_66 hx hb ht hown hK hw rfl dX9_becomeMade_27 ?_
    refine gf_X9_190 hx hb ht hown hK hw rfl dX9_becomeMade_30 ?_
    refine T_calli hw (va_runV (own := "Leastreader") (As := [.int (μ2 57 1)]) (rest := []) ⟨hx, hb, hml, hown, ht⟩ (c_X9_acted μ2 H.size (μ2 57 1) h) (cwV 1 ht (G_V q_624 q_626 q_13 q_46 q_627) rfl rfl rfl ⟨rfl, hd_3⟩ ⟨Nat.le_of_ble_eq_true rfl, Nat.le_of_ble_eq_true rfl⟩) ⟨TB.blind, (T_recv hK hw (kd_of rfl (by decide)) (ent_8 rfl) cl_8), TB.pre hK hN hw⟩ rfl rfl hl.1 rfl (lv_room (Nat.le_of_ble_eq_true rfl)) dX9_becomeMade_33 ⟨Nat.le_of_ble_eq_true rfl, Nat.le_of_ble_eq_true rfl⟩) (fun r4 μ3 H locs h hw => ?_)
    exact hret H locs ls 36 _ _ hw h rfl dX9_becomeMade_36
  have h := h.2 c1
  refine lv_aload_n hx hb dX9_becomeMade_12 rfl (lv_at hl 0 rfl) ?_
  refine T_calli hw (va_runV (own := "Leastreader") (As := []) (rest := []) ⟨hx, hb, hml, hown, ht⟩ (c_X9_refuse μ H.size h) (cwV 0 ht (G_V q_732 q_734 q_16 q_46 q_735) rfl rfl rfl ⟨rfl, hd_4⟩ ⟨Nat.le_of_ble_eq_true rfl, Nat.le_of_ble_eq_true rfl⟩) ⟨TB.blind, (T_recv hK hw (kd_of rfl (by decide)) (ent_8 rfl) cl_8), TB.pre hK hN hw⟩ rfl rfl hl.1 rfl (lv_room (Nat.le_of_ble_eq_true rfl)) dX9_becomeMade_13 ⟨Nat.le_of_ble_eq_true rfl, Nat.le_of_ble_eq_true rfl⟩) (fun r6 μ5 H locs h hw => ?_)
  exact hret H locs ls 16 _ _ hw h rfl dX9_becomeMade_16
def wp_X6_put (k0 : Nat) (μ : TMem) (a1 : Int32) (a2 : Int32) (Q : TMem → Prop) : Prop :=
  (a1 < 0 → (Q μ)) ∧ (¬ a1 < 0 → (((nI (tl (k0 + 1))) ≤ a1 → (Q μ)) ∧ (¬ (nI (tl (k0 + 1))) ≤ a1 → (vp_in a1 (tl (k0 + 1)) ∧ (Q (tms μ (k0 + 1) a1.toNatClampNeg a2))))))
set_option maxHeartbeats 4000000 in
set_option maxRecDepth 100000 in
theorem c_X6_put {l : Launch} {D : va_G} {ad : Nat → Nat} {cI cM : ClassId} (k0 : Nat) (hk0 : kd k0 = 6) (μ : TMem) (sz : Nat) (a1 : Int32) (a2 : Int32) {Q : TMem → Prop} (h : wp_X6_put k0 μ a1 a2 Q) : TMv l yX6_put (.code yX6_put cX6_put 3 (Option.none : Option Jvm.ClassFile.FieldType)) 0 [.ref (ad k0), .int a1, .int a2] D ad cI cM sz μ Q := by
  refine T_metv (by decide +kernel) (Nat.le_of_ble_eq_true rfl) ?_
  intro p e s m below meth c Z ls hx hb hml hown ht hN hK hw hret hl
  have hl : lv_has ls 3 [(0, .ref (ad k0)), (1, .int a1), (2, .int a2)] := hl
  generalize s.heap = H at hw ⊢
  generalize ([] : List Loc) = locs at hw ⊢
  change (a1 < 0 → (Q μ)) ∧ (¬ a1 < 0 → (((nI (tl (k0 + 1))) ≤ a1 → (Q μ)) ∧ (¬ (nI (tl (k0 + 1))) ≤ a1 → (vp_in a1 (tl (k0 + 1)) ∧ (Q (tms μ (k0 + 1) a1.toNatClampNeg a2)))))) at h
  refine lv_iload_n hx hb dX6_put_0 rfl (lv_at hl 1 rfl) ?_
  refine lv_if_lt (tgt := 20) hx hb dX6_put_1 (by decide) (fun c1 => ?_) (fun c1 => ?_)
  · have h := h.1 c1
    exact hret H locs ls 20 _ hw h dX6_put_20
  have h := h.2 c1
  refine lv_iload_n hx hb dX6_put_4 rfl (lv_at hl 1 rfl) ?_
  refine lv_aload_n hx hb dX6_put_5 rfl (lv_at hl 0 rfl) ?_
  refine gf_X6_9 hx hb ht hown hK hw hk0 dX6_put_6 ?_
  refine t_alen hx hb hK hw (ka_6 hk0) dX6_put_9 ?_
  refine lv_icmp_ge (tgt := 20) hx hb dX6_put_10 (by decide) (fun c2 => ?_) (fun c2 => ?_)
  · have h := h.1 c2
    exact hret H locs ls 20 _ hw h dX6_put_20
  have h := h.2 c2
  refine lv_aload_n hx hb dX6_put_13 rfl (lv_at hl 0 rfl) ?_
  refine gf_X6_9 hx hb ht hown hK hw hk0 dX6_put_14 ?_
  refine lv_iload_n hx hb dX6_put_17 rfl (lv_at hl 1 rfl) ?_
  refine lv_iload_n hx hb dX6_put_18 rfl (lv_at hl 2 rfl) ?_
  obtain ⟨z3, h⟩ := h
  refine t_iast hx hb hK hw (ka_6 hk0) z3 dX6_put_19 (fun H locs hw => ?_)
  exact hret H locs ls 20 _ hw h dX6_put_20
def wp_X6_at (k0 : Nat) (μ : TMem) (a1 : Int32) (Q : Int32 → Prop) : Prop :=
  (a1 < 0 → (Q (0 : Int32))) ∧ (¬ a1 < 0 → (((nI (tl (k0 + 1))) ≤ a1 → (Q (0 : Int32))) ∧ (¬ (nI (tl (k0 + 1))) ≤ a1 → (vp_in a1 (tl (k0 + 1)) ∧ (Q (μ (k0 + 1) a1.toNatClampNeg))))))
set_option maxHeartbeats 4000000 in
set_option maxRecDepth 100000 in
theorem c_X6_at {l : Launch} {D : va_G} {ad : Nat → Nat} {cI cM : ClassId} (k0 : Nat) (hk0 : kd k0 = 6) (μ : TMem) (sz : Nat) (a1 : Int32) {Q : Int32 → Prop} (h : wp_X6_at k0 μ a1 Q) : TMi l yX6_at (.code yX6_at cX6_at 2 (Option.some Jvm.ClassFile.FieldType.int)) 0 [.ref (ad k0), .int a1] D ad cI cM sz μ (fun r μ1 => μ1 = μ ∧ Q r) := by
  refine T_meti (by decide +kernel) (Nat.le_of_ble_eq_true rfl) ?_
  intro p e s m below meth c Z ls hx hb hml hown ht hN hK hw hret hl
  have hl : lv_has ls 2 [(0, .ref (ad k0)), (1, .int a1)] := hl
  generalize s.heap = H at hw ⊢
  generalize ([] : List Loc) = locs at hw ⊢
  change (a1 < 0 → (Q (0 : Int32))) ∧ (¬ a1 < 0 → (((nI (tl (k0 + 1))) ≤ a1 → (Q (0 : Int32))) ∧ (¬ (nI (tl (k0 + 1))) ≤ a1 → (vp_in a1 (tl (k0 + 1)) ∧ (Q (μ (k0 + 1) a1.toNatClampNeg)))))) at h
  refine lv_iload_n hx hb dX6_at_0 rfl (lv_at hl 1 rfl) ?_
  refine lv_if_lt (tgt := 22) hx hb dX6_at_1 (by decide) (fun c1 => ?_) (fun c1 => ?_)
  · have h := h.1 c1
    refine lv_iconst (v := (0 : Int32)) hx hb dX6_at_22 (by decide) ?_
    exact hret H locs ls 23 _ _ hw ⟨rfl, h⟩ rfl dX6_at_23
  have h := h.2 c1
  refine lv_iload_n hx hb dX6_at_4 rfl (lv_at hl 1 rfl) ?_
  refine lv_aload_n hx hb dX6_at_5 rfl (lv_at hl 0 rfl) ?_
  refine gf_X6_9 hx hb ht hown hK hw hk0 dX6_at_6 ?_
  refine t_alen hx hb hK hw (ka_6 hk0) dX6_at_9 ?_
  refine lv_icmp_ge (tgt := 22) hx hb dX6_at_10 (by decide) (fun c2 => ?_) (fun c2 => ?_)
  · have h := h.1 c2
    refine lv_iconst (v := (0 : Int32)) hx hb dX6_at_22 (by decide) ?_
    exact hret H locs ls 23 _ _ hw ⟨rfl, h⟩ rfl dX6_at_23
  have h := h.2 c2
  refine lv_aload_n hx hb dX6_at_13 rfl (lv_at hl 0 rfl) ?_
  refine gf_X6_9 hx hb ht hown hK hw hk0 dX6_at_14 ?_
  refine lv_iload_n hx hb dX6_at_17 rfl (lv_at hl 1 rfl) ?_
  obtain ⟨z3, h⟩ := h
  refine t_iald hx hb hK hw (ka_6 hk0) z3 dX6_at_18 ?_
  refine lv_goto (tgt := 23) hx hb dX6_at_19 (by decide) ?_
  exact hret H locs ls 23 _ _ hw ⟨rfl, h⟩ rfl dX6_at_23
def wpl_X2_reach_5 (k0 : Nat) (μ : TMem) (v4 : Int32) (v5 : Int32) (Q : Int32 → Prop) : Nat → Int32 → Int32 → Prop
  | 0, _, _ => False
  | n + 1, v2, v3 =>
    ((μ k0 1) ≤ v2 → (Q v3)) ∧ (¬ (μ k0 1) ≤ v2 → (wp_X9_isIn v4 v2 (fun (r7 : Int32) => (r7 = 0 → (wpl_X2_reach_5 k0 μ v4 v5 Q n (v2 + (1 : Int32)) v3)) ∧ (¬ r7 = 0 → (wp_X7_at k0 μ v2 v5 (fun (r9 : Int32) => wpl_X2_reach_5 k0 μ v4 v5 Q n (v2 + (1 : Int32)) (v3 ||| r9)))))))
def wp_X2_reach (k0 : Nat) (μ : TMem) (a1 : Int32) (a2 : Int32) (Q : Int32 → Prop) : Prop :=
  ∃ n0x, wpl_X2_reach_5 k0 μ a1 a2 Q n0x (0 : Int32) (0 : Int32)
set_option maxHeartbeats 4000000 in
set_option maxRecDepth 100000 in
theorem c_X2_reach {l : Launch} {D : va_G} {ad : Nat → Nat} {cI cM : ClassId} (k0 : Nat) (hk0 : kd k0 = 2) (μ : TMem) (sz : Nat) (a1 : Int32) (a2 : Int32) {Q : Int32 → Prop} (h : wp_X2_reach k0 μ a1 a2 Q) : TMi l yX2_reach (.code yX2_reach cX2_reach 5 (Option.some Jvm.ClassFile.FieldType.int)) 1 [.ref (ad k0), .int a1, .int a2] D ad cI cM sz μ (fun r μ1 => μ1 = μ ∧ Q r) := by
  refine T_meti (by decide +kernel) (Nat.le_of_ble_eq_true rfl) ?_
  intro p e s m below meth c Z ls hx hb hml hown ht hN hK hw hret hl
  have hl : lv_has ls 5 [(0, .ref (ad k0)), (1, .int a1), (2, .int a2)] := hl
  generalize s.heap = H at hw ⊢
  generalize ([] : List Loc) = locs at hw ⊢
  change ∃ n0x, wpl_X2_reach_5 k0 μ a1 a2 Q n0x (0 : Int32) (0 : Int32) at h
  refine lv_iconst (v := (0 : Int32)) hx hb dX2_reach_0 (by decide) ?_
  refine lv_istore_n (lv' := [(3, .int (0 : Int32)), (0, .ref (ad k0)), (1, .int a1), (2, .int a2)]) hx hb dX2_reach_1 rfl hl (by decide) rfl (fun ls hl => ?_)
  refine lv_iconst (v := (0 : Int32)) hx hb dX2_reach_2 (by decide) ?_
  refine lv_istore (lv' := [(4, .int (0 : Int32)), (3, .int (0 : Int32)), (0, .ref (ad k0)), (1, .int a1), (2, .int a2)]) hx hb dX2_reach_3 hl (by decide) rfl (fun ls hl => ?_)
  obtain ⟨n12, h⟩ := h
  have L0 : ∀ (v4 : Int32) (v5 : Int32), ∀ (n : Nat) (v2 : Int32) (v3 : Int32) (H : Heap) (locs : List Loc) (ls : Array Slot), TW D ad cI cM s μ H locs → lv_has ls 5 [(4, .int v2), (3, .int v3), (0, .ref (ad k0)), (1, .int v4), (2, .int v5)] → wpl_X2_reach_5 k0 μ v4 v5 Q n v2 v3 → W p l e (RM 1) s m #[.ref (ad k0), .int a1, .int a2] below meth c H locs 0 0 Z (F0 m 5 ls []) := by
    intro v4 v5
    intro n
    induction n with
    | zero => intro v2 v3 H locs ls hw hl h; exact False.elim h
    | succ n ih0 =>
      intro v2 v3 H locs ls hw hl h
      change ((μ k0 1) ≤ v2 → (Q v3)) ∧ (¬ (μ k0 1) ≤ v2 → (wp_X9_isIn v4 v2 (fun (r7 : Int32) => (r7 = 0 → (wpl_X2_reach_5 k0 μ v4 v5 Q n (v2 + (1 : Int32)) v3)) ∧ (¬ r7 = 0 → (wp_X7_at k0 μ v2 v5 (fun (r9 : Int32) => wpl_X2_reach_5 k0 μ v4 v5 Q n (v2 + (1 : Int32)) (v3 ||| r9))))))) at h
      refine lv_iload hx hb dX2_reach_5 (lv_at hl 0 rfl) ?_
      refine lv_aload_n hx hb dX2_reach_7 rfl (lv_at hl 2 rfl) ?_
      refine gf_X2_15 hx hb ht hown hK hw hk0 dX2_reach_8 ?_
      refine lv_icmp_ge (tgt := 39) hx hb dX2_reach_11 (by decide) (fun c6 => ?_) (fun c6 => ?_)
      · have h := h.1 c6
        refine lv_iload_n hx hb dX2_reach_39 rfl (lv_at hl 1 rfl) ?_
        exact hret H locs ls 40 _ _ hw ⟨rfl, h⟩ rfl dX2_reach_40
      have h := h.2 c6
      refine lv_iload_n hx hb dX2_reach_14 rfl (lv_at hl 3 rfl) ?_
      refine lv_iload hx hb dX2_reach_15 (lv_at hl 0 rfl) ?_
      refine P_calli (va_runSN (own := "Leastreader$Machine") (As := [.int v4, .int v2]) (rest := []) ⟨hx, hb, hml, hown, ht⟩ (c_X9_isIn v4 v2 h) ⟨va_cnB 2 ht (G_ws q_411) rfl rfl rfl (nw_409 hN) (ht _ q_46) hd_5 ⟨Nat.le_of_ble_eq_true rfl, Nat.le_of_ble_eq_true rfl⟩, ht _ q_410, trivial⟩ ⟨PM_blind, PM_pre⟩ rfl rfl hl.1 rfl (lv_room (Nat.le_of_ble_eq_true rfl)) dX2_reach_17 ⟨Nat.le_of_ble_eq_true rfl, Nat.le_of_ble_eq_true rfl⟩) (fun r7 h => ?_)
      refine lv_if_eq (tgt := 33) hx hb dX2_reach_20 (by decide) (fun c8 => ?_) (fun c8 => ?_)
      · have h := h.1 c8
        refine lv_iinc (v := (v2 + (1 : Int32))) (lv' := [(4, .int (v2 + (1 : Int32))), (3, .int v3), (0, .ref (ad k0)), (1, .int v4), (2, .int v5)]) hx hb dX2_reach_33 hl (k := 0) rfl rfl (by decide) rfl (fun ls hl => ?_)
        refine lv_goto (tgt := 5) hx hb dX2_reach_36 (by decide) ?_
        exact ih0 (v2 + (1 : Int32)) v3 H locs ls hw (lv_sub hl [0, 1, 2, 3, 4] rfl) h
      have h := h.2 c8
      refine lv_iload_n hx hb dX2_reach_23 rfl (lv_at hl 1 rfl) ?_
      refine lv_aload_n hx hb dX2_reach_24 rfl (lv_at hl 2 rfl) ?_
      refine lv_iload hx hb dX2_reach_25 (lv_at hl 0 rfl) ?_
      refine lv_iload_n hx hb dX2_reach_27 rfl (lv_at hl 4 rfl) ?_
      refine T_calli hw (va_runU (own := "Leastreader$Machine") (As := [.int v2, .int v5]) (rest := [.int v3]) ⟨hx, hb, hml, hown, ht⟩ (c_X7_at_2 k0 hk0 μ H.size v2 v5 h) (va_cwU (owner := "Leastreader$Table") 2 ht (G_U q_412 q_413 q_415 q_416 q_47 q_417) rfl rfl rfl rfl hd_0 ⟨Nat.le_of_ble_eq_true rfl, Nat.le_of_ble_eq_true rfl⟩) ⟨TB.blind, (T_recv hK hw (kd_of hk0 (by decide)) (ent_2 hk0) cl_2), TB.pre hK hN hw⟩ rfl rfl hl.1 rfl (lv_room (Nat.le_of_ble_eq_true rfl)) dX2_reach_28 ⟨Nat.le_of_ble_eq_true rfl, Nat.le_of_ble_eq_true rfl⟩) (fun r9 μ10 H locs h hw => ?_)
      obtain ⟨e11, h⟩ := h
      rw [e11] at hw
      refine lv_ior hx hb dX2_reach_31 ?_
      refine lv_istore_n (lv' := [(3, .int (v3 ||| r9)), (4, .int v2), (0, .ref (ad k0)), (1, .int v4), (2, .int v5)]) hx hb dX2_reach_32 rfl hl (by decide) rfl (fun ls hl => ?_)
      refine lv_iinc (v := (v2 + (1 : Int32))) (lv' := [(4, .int (v2 + (1 : Int32))), (3, .int (v3 ||| r9)), (0, .ref (ad k0)), (1, .int v4), (2, .int v5)]) hx hb dX2_reach_33 hl (k := 1) rfl rfl (by decide) rfl (fun ls hl => ?_)
      refine lv_goto (tgt := 5) hx hb dX2_reach_36 (by decide) ?_
      exact ih0 (v2 + (1 : Int32)) (v3 ||| r9) H locs ls hw (lv_sub hl [0, 1, 2, 3, 4] rfl) h
  exact L0 a1 a2 n12 (0 : Int32) (0 : Int32) H locs ls hw (lv_sub hl [0, 1, 2, 3, 4] rfl) h
end
/-! part 21.m2 -/
section
def wpl_X6_find_2 (k0 : Nat) (μ : TMem) (v3 : Int32) (v4 : Int32) (Q : Int32 → Prop) : Nat → Int32 → Prop
  | 0, _ => False
  | n + 1, v2 =>
    (v4 ≤ v2 → (Q (-1 : Int32))) ∧ (¬ v4 ≤ v2 → (((nI (tl (k0 + 1))) ≤ v2 → (Q (-1 : Int32))) ∧ (¬ (nI (tl (k0 + 1))) ≤ v2 → (vp_in v2 (tl (k0 + 1)) ∧ ((¬ (μ (k0 + 1) v2.toNatClampNeg) = v3 → (wpl_X6_find_2 k0 μ v3 v4 Q n (v2 + (1 : Int32)))) ∧ ((μ (k0 + 1) v2.toNatClampNeg) = v3 → (Q v2)))))))
def wp_X6_find (k0 : Nat) (μ : TMem) (a1 : Int32) (a2 : Int32) (Q : Int32 → Prop) : Prop :=
  ∃ n0x, wpl_X6_find_2 k0 μ a1 a2 Q n0x (0 : Int32)
set_option maxHeartbeats 4000000 in
set_option maxRecDepth 100000 in
theorem c_X6_find {l : Launch} {D : va_G} {ad : Nat → Nat} {cI cM : ClassId} (k0 : Nat) (hk0 : kd k0 = 6) (μ : TMem) (sz : Nat) (a1 : Int32) (a2 : Int32) {Q : Int32 → Prop} (h : wp_X6_find k0 μ a1 a2 Q) : TMi l yX6_find (.code yX6_find cX6_find 4 (Option.some Jvm.ClassFile.FieldType.int)) 0 [.ref (ad k0), .int a1, .int a2] D ad cI cM sz μ (fun r μ1 => μ1 = μ ∧ Q r) := by
  refine T_meti (by decide +kernel) (Nat.le_of_ble_eq_true rfl) ?_
  intro p e s m below meth c Z ls hx hb hml hown ht hN hK hw hret hl
  have hl : lv_has ls 4 [(0, .ref (ad k0)), (1, .int a1), (2, .int a2)] := hl
  generalize s.heap = H at hw ⊢
  generalize ([] : List Loc) = locs at hw ⊢
  change ∃ n0x, wpl_X6_find_2 k0 μ a1 a2 Q n0x (0 : Int32) at h
  refine lv_iconst (v := (0 : Int32)) hx hb dX6_find_0 (by decide) ?_
  refine lv_istore_n (lv' := [(3, .int (0 : Int32)), (0, .ref (ad k0)), (1, .int a1), (2, .int a2)]) hx hb dX6_find_1 rfl hl (by decide) rfl (fun ls hl => ?_)
  obtain ⟨n9, h⟩ := h
  have L0 : ∀ (v3 : Int32) (v4 : Int32), ∀ (n : Nat) (v2 : Int32) (H : Heap) (locs : List Loc) (ls : Array Slot), TW D ad cI cM s μ H locs → lv_has ls 4 [(3, .int v2), (0, .ref (ad k0)), (1, .int v3), (2, .int v4)] → wpl_X6_find_2 k0 μ v3 v4 Q n v2 → W p l e (RM 0) s m #[.ref (ad k0), .int a1, .int a2] below meth c H locs 0 0 Z (F0 m 2 ls []) := by
    intro v3 v4
    intro n
    induction n with
    | zero => intro v2 H locs ls hw hl h; exact False.elim h
    | succ n ih0 =>
      intro v2 H locs ls hw hl h
      change (v4 ≤ v2 → (Q (-1 : Int32))) ∧ (¬ v4 ≤ v2 → (((nI (tl (k0 + 1))) ≤ v2 → (Q (-1 : Int32))) ∧ (¬ (nI (tl (k0 + 1))) ≤ v2 → (vp_in v2 (tl (k0 + 1)) ∧ ((¬ (μ (k0 + 1) v2.toNatClampNeg) = v3 → (wpl_X6_find_2 k0 μ v3 v4 Q n (v2 + (1 : Int32)))) ∧ ((μ (k0 + 1) v2.toNatClampNeg) = v3 → (Q v2))))))) at h
      refine lv_iload_n hx hb dX6_find_2 rfl (lv_at hl 0 rfl) ?_
      refine lv_iload_n hx hb dX6_find_3 rfl (lv_at hl 3 rfl) ?_
      refine lv_icmp_ge (tgt := 34) hx hb dX6_find_4 (by decide) (fun c5 => ?_) (fun c5 => ?_)
      · have h := h.1 c5
        refine lv_iconst (v := (-1 : Int32)) hx hb dX6_find_34 (by decide) ?_
        exact hret H locs ls 35 _ _ hw ⟨rfl, h⟩ rfl dX6_find_35
      have h := h.2 c5
      refine lv_iload_n hx hb dX6_find_7 rfl (lv_at hl 0 rfl) ?_
      refine lv_aload_n hx hb dX6_find_8 rfl (lv_at hl 1 rfl) ?_
      refine gf_X6_9 hx hb ht hown hK hw hk0 dX6_find_9 ?_
      refine t_alen hx hb hK hw (ka_6 hk0) dX6_find_12 ?_
      refine lv_icmp_ge (tgt := 34) hx hb dX6_find_13 (by decide) (fun c6 => ?_) (fun c6 => ?_)
      · have h := h.1 c6
        refine lv_iconst (v := (-1 : Int32)) hx hb dX6_find_34 (by decide) ?_
        exact hret H locs ls 35 _ _ hw ⟨rfl, h⟩ rfl dX6_find_35
      have h := h.2 c6
      refine lv_aload_n hx hb dX6_find_16 rfl (lv_at hl 1 rfl) ?_
      refine gf_X6_9 hx hb ht hown hK hw hk0 dX6_find_17 ?_
      refine lv_iload_n hx hb dX6_find_20 rfl (lv_at hl 0 rfl) ?_
      obtain ⟨z7, h⟩ := h
      refine t_iald hx hb hK hw (ka_6 hk0) z7 dX6_find_21 ?_
      refine lv_iload_n hx hb dX6_find_22 rfl (lv_at hl 2 rfl) ?_
      refine lv_icmp_ne (tgt := 28) hx hb dX6_find_23 (by decide) (fun c8 => ?_) (fun c8 => ?_)
      · have h := h.1 c8
        refine lv_iinc (v := (v2 + (1 : Int32))) (lv' := [(3, .int (v2 + (1 : Int32))), (0, .ref (ad k0)), (1, .int v3), (2, .int v4)]) hx hb dX6_find_28 hl (k := 0) rfl rfl (by decide) rfl (fun ls hl => ?_)
        refine lv_goto (tgt := 2) hx hb dX6_find_31 (by decide) ?_
        exact ih0 (v2 + (1 : Int32)) H locs ls hw (lv_sub hl [0, 1, 2, 3] rfl) h
      have h := h.2 c8
      refine lv_iload_n hx hb dX6_find_26 rfl (lv_at hl 0 rfl) ?_
      exact hret H locs ls 27 _ _ hw ⟨rfl, h⟩ rfl dX6_find_27
  exact L0 a1 a2 n9 (0 : Int32) H locs ls hw (lv_sub hl [0, 1, 2, 3] rfl) h
def wp_X3_numberOf (k2 : Nat) (μ : TMem) (a1 : Int32) (Q : Int32 → TMem → Prop) : Prop :=
  wp_X6_find 16 μ a1 (μ k2 1) (fun (r1 : Int32) => (¬ r1 = (-1 : Int32) → (Q r1 μ)) ∧ (r1 = (-1 : Int32) → (((μ k2 1) < (32 : Int32) → (wp_X6_put 16 μ (μ k2 1) a1 (fun (μ6 : TMem) => Q (((tms μ6 k2 1 ((μ6 k2 1) + (1 : Int32))) k2 1) - (1 : Int32)) (tms μ6 k2 1 ((μ6 k2 1) + (1 : Int32)))))) ∧ (¬ (μ k2 1) < (32 : Int32) → (Q r1 μ)))))
set_option maxHeartbeats 4000000 in
set_option maxRecDepth 100000 in
theorem c_X3_numberOf {l : Launch} {D : va_G} {ad : Nat → Nat} {cI cM : ClassId} (k2 : Nat) (hk2 : kd k2 = 5) (μ : TMem) (sz : Nat) (a1 : Int32) {Q : Int32 → TMem → Prop} (h : wp_X3_numberOf k2 μ a1 Q) : TMi l yX3_numberOf (.code yX3_numberOf cX3_numberOf 4 (Option.some Jvm.ClassFile.FieldType.int)) 1 [.ref (ad 15), .int a1, .ref (ad k2)] D ad cI cM sz μ Q := by
  refine T_meti (by decide +kernel) (Nat.le_of_ble_eq_true rfl) ?_
  intro p e s m below meth c Z ls hx hb hml hown ht hN hK hw hret hl
  have hl : lv_has ls 4 [(0, .ref (ad 15)), (1, .int a1), (2, .ref (ad k2))] := hl
  generalize s.heap = H at hw ⊢
  generalize ([] : List Loc) = locs at hw ⊢
  change wp_X6_find 16 μ a1 (μ k2 1) (fun (r1 : Int32) => (¬ r1 = (-1 : Int32) → (Q r1 μ)) ∧ (r1 = (-1 : Int32) → (((μ k2 1) < (32 : Int32) → (wp_X6_put 16 μ (μ k2 1) a1 (fun (μ6 : TMem) => Q (((tms μ6 k2 1 ((μ6 k2 1) + (1 : Int32))) k2 1) - (1 : Int32)) (tms μ6 k2 1 ((μ6 k2 1) + (1 : Int32)))))) ∧ (¬ (μ k2 1) < (32 : Int32) → (Q r1 μ))))) at h
  refine lv_aload_n hx hb dX3_numberOf_0 rfl (lv_at hl 0 rfl) ?_
  refine gf_X3_14 hx hb ht hown hK hw rfl dX3_numberOf_1 ?_
  refine W.eq (g2 := F0 m 4 ls [.ref (ad 16)]) rfl ?_
  refine lv_iload_n hx hb dX3_numberOf_4 rfl (lv_at hl 1 rfl) ?_
  refine lv_aload_n hx hb dX3_numberOf_5 rfl (lv_at hl 2 rfl) ?_
  refine gf_X3_83 hx hb ht hown hK hw hk2 dX3_numberOf_6 ?_
  refine T_calli hw (va_runV (own := "Leastreader$Maker") (As := [.int a1, .int (μ k2 1)]) (rest := []) ⟨hx, hb, hml, hown, ht⟩ (c_X6_find 16 rfl μ H.size a1 (μ k2 1) h) (cwV 2 ht (G_V q_422 q_423 q_424 q_51 q_425) rfl rfl rfl ⟨rfl, hd_6⟩ ⟨Nat.le_of_ble_eq_true rfl, Nat.le_of_ble_eq_true rfl⟩) ⟨TB.blind, (T_recv hK hw (kd_of rfl (by decide)) (ent_6 rfl) cl_6), TB.pre hK hN hw⟩ rfl rfl hl.1 rfl (lv_room (Nat.le_of_ble_eq_true rfl)) dX3_numberOf_9 ⟨Nat.le_of_ble_eq_true rfl, Nat.le_of_ble_eq_true rfl⟩) (fun r1 μ2 H locs h hw => ?_)
  obtain ⟨e3, h⟩ := h
  rw [e3] at hw
  refine lv_istore_n (lv' := [(3, .int r1), (0, .ref (ad 15)), (1, .int a1), (2, .ref (ad k2))]) hx hb dX3_numberOf_12 rfl hl (by decide) rfl (fun ls hl => ?_)
  refine lv_iload_n hx hb dX3_numberOf_13 rfl (lv_at hl 0 rfl) ?_
  refine lv_iconst (v := (-1 : Int32)) hx hb dX3_numberOf_14 (by decide) ?_
  refine lv_icmp_ne (tgt := 27) hx hb dX3_numberOf_15 (by decide) (fun c4 => ?_) (fun c4 => ?_)
  · have h := h.1 c4
    refine lv_iload_n hx hb dX3_numberOf_27 rfl (lv_at hl 0 rfl) ?_
    exact hret H locs ls 28 _ _ hw h rfl dX3_numberOf_28
  have h := h.2 c4
  refine lv_aload_n hx hb dX3_numberOf_18 rfl (lv_at hl 3 rfl) ?_
  refine gf_X3_83 hx hb ht hown hK hw hk2 dX3_numberOf_19 ?_
  refine lv_bipush (v := (32 : Int32)) hx hb dX3_numberOf_22 (by decide) ?_
  refine lv_icmp_lt (tgt := 29) hx hb dX3_numberOf_24 (by decide) (fun c5 => ?_) (fun c5 => ?_)
  · have h := h.1 c5
    refine lv_aload_n hx hb dX3_numberOf_29 rfl (lv_at hl 1 rfl) ?_
    refine gf_X3_14 hx hb ht hown hK hw rfl dX3_numberOf_30 ?_
    refine W.eq (g2 := F0 m 33 ls [.ref (ad 16)]) rfl ?_
    refine lv_aload_n hx hb dX3_numberOf_33 rfl (lv_at hl 3 rfl) ?_
    refine gf_X3_83 hx hb ht hown hK hw hk2 dX3_numberOf_34 ?_
    refine lv_iload_n hx hb dX3_numberOf_37 rfl (lv_at hl 2 rfl) ?_
    refine T_callv hw (va_runV (own := "Leastreader$Maker") (As := [.int (μ k2 1), .int a1]) (rest := []) ⟨hx, hb, hml, hown, ht⟩ (c_X6_put 16 rfl μ H.size (μ k2 1) a1 h) (cwV 2 ht (G_V q_394 q_395 q_396 q_51 q_397) rfl rfl rfl ⟨rfl, hd_7⟩ ⟨Nat.le_of_ble_eq_true rfl, Nat.le_of_ble_eq_true rfl⟩) ⟨TB.blind, (T_recv hK hw (kd_of rfl (by decide)) (ent_6 rfl) cl_6), TB.pre hK hN hw⟩ rfl rfl hl.1 rfl (lv_room (Nat.le_of_ble_eq_true rfl)) dX3_numberOf_38 ⟨Nat.le_of_ble_eq_true rfl, Nat.le_of_ble_eq_true rfl⟩) (fun μ6 H locs h hw => ?_)
    refine lv_aload_n hx hb dX3_numberOf_41 rfl (lv_at hl 3 rfl) ?_
    refine lv_dup hx hb dX3_numberOf_42 rfl ?_
    refine gf_X3_83 hx hb ht hown hK hw hk2 dX3_numberOf_43 ?_
    refine lv_iconst (v := (1 : Int32)) hx hb dX3_numberOf_46 (by decide) ?_
    refine lv_iadd hx hb dX3_numberOf_47 ?_
    refine pgf_X3_83 hx hb ht hown hK hw hk2 dX3_numberOf_48 (fun H locs hw => ?_)
    refine lv_aload_n hx hb dX3_numberOf_51 rfl (lv_at hl 3 rfl) ?_
    refine gf_X3_83 hx hb ht hown hK hw hk2 dX3_numberOf_52 ?_
    refine lv_iconst (v := (1 : Int32)) hx hb dX3_numberOf_55 (by decide) ?_
    refine lv_isub hx hb dX3_numberOf_56 ?_
    exact hret H locs ls 57 _ _ hw h rfl dX3_numberOf_57
  have h := h.2 c5
  refine lv_iload_n hx hb dX3_numberOf_27 rfl (lv_at hl 0 rfl) ?_
  exact hret H locs ls 28 _ _ hw h rfl dX3_numberOf_28
def wpl_X3_makeOneWay_78 (k1 : Nat) (k2 : Nat) (v15 : Int32) (v16 : Int32) (K122 : TMem → Prop) (Q : Int32 → TMem → Prop) : Nat → Int32 → TMem → Prop
  | 0, _, _ => False
  | n + 1, v14, μ17 =>
    ((3 : Int32) ≤ v14 → (K122 μ17)) ∧ (¬ (3 : Int32) ≤ v14 → (wp_X2_reach k1 μ17 v15 v14 (fun (r19 : Int32) => wp_X3_numberOf k2 μ17 r19 (fun (r23 : Int32) (μ22 : TMem) => (¬ r23 = (-1 : Int32) → (wp_X7_put k2 μ22 v16 v14 r23 (fun (μ25 : TMem) => wpl_X3_makeOneWay_78 k1 k2 v15 v16 K122 Q n (v14 + (1 : Int32)) μ25))) ∧ (r23 = (-1 : Int32) → (Q (0 : Int32) μ22))))))
def wpl_X3_makeOneWay_24 (k1 : Nat) (k2 : Nat) (Q : Int32 → TMem → Prop) : Nat → Int32 → TMem → Prop
  | 0, _, _ => False
  | n + 1, v3, μ4 =>
    ((32 : Int32) ≤ v3 → (Q (1 : Int32) μ4)) ∧ (¬ (32 : Int32) ≤ v3 → (((μ4 k2 1) ≤ v3 → (Q (1 : Int32) μ4)) ∧ (¬ (μ4 k2 1) ≤ v3 → (wp_X6_at 16 μ4 v3 (fun (r7 : Int32) => ∀ J10 : Int32 → Prop, (∀ (j11 : Int32), (wp_X9_withOrWithout (μ4 k2 2) v3 j11 (fun (r12 : Int32) => ∃ n12x, wpl_X3_makeOneWay_78 k1 k2 r7 v3 (fun (μ27 : TMem) => wpl_X3_makeOneWay_24 k1 k2 Q n (v3 + (1 : Int32)) μ27) Q n12x (0 : Int32) (tms μ4 k2 2 r12))) → J10 j11) → (((r7 &&& (μ4 k1 2)) = 0 → (J10 (0 : Int32))) ∧ (¬ (r7 &&& (μ4 k1 2)) = 0 → (J10 (1 : Int32)))))))))
def wp_X3_makeOneWay (k1 : Nat) (k2 : Nat) (μ : TMem) (Q : Int32 → TMem → Prop) : Prop :=
  wp_X6_put 16 μ (0 : Int32) (μ k1 3) (fun (μ1 : TMem) => ∃ n1x, wpl_X3_makeOneWay_24 k1 k2 Q n1x (0 : Int32) (tms (tms μ1 k2 1 (1 : Int32)) k2 2 (0 : Int32)))
set_option maxHeartbeats 4000000 in
set_option maxRecDepth 100000 in
theorem c_X3_makeOneWay {l : Launch} {D : va_G} {ad : Nat → Nat} {cI cM : ClassId} (k1 : Nat) (hk1 : kd k1 = 2) (k2 : Nat) (hk2 : kd k2 = 5) (μ : TMem) (sz : Nat)  {Q : Int32 → TMem → Prop} (h : wp_X3_makeOneWay k1 k2 μ Q) : TMi l yX3_makeOneWay (.code yX3_makeOneWay cX3_makeOneWay 7 (Option.some Jvm.ClassFile.FieldType.boolean)) 2 [.ref (ad 15), .ref (ad k1), .ref (ad k2)] D ad cI cM sz μ Q := by
  refine T_meti (by decide +kernel) (Nat.le_of_ble_eq_true rfl) ?_
  intro p e s m below meth c Z ls hx hb hml hown ht hN hK hw hret hl
  have hl : lv_has ls 7 [(0, .ref (ad 15)), (1, .ref (ad k1)), (2, .ref (ad k2))] := hl
  generalize s.heap = H at hw ⊢
  generalize ([] : List Loc) = locs at hw ⊢
  change wp_X6_put 16 μ (0 : Int32) (μ k1 3) (fun (μ1 : TMem) => ∃ n1x, wpl_X3_makeOneWay_24 k1 k2 Q n1x (0 : Int32) (tms (tms μ1 k2 1 (1 : Int32)) k2 2 (0 : Int32))) at h
  refine lv_aload_n hx hb dX3_makeOneWay_0 rfl (lv_at hl 0 rfl) ?_
  refine gf_X3_14 hx hb ht hown hK hw rfl dX3_makeOneWay_1 ?_
  refine W.eq (g2 := F0 m 4 ls [.ref (ad 16)]) rfl ?_
  refine lv_iconst (v := (0 : Int32)) hx hb dX3_makeOneWay_4 (by decide) ?_
  refine lv_aload_n hx hb dX3_makeOneWay_5 rfl (lv_at hl 1 rfl) ?_
  refine gf_X3_75 hx hb ht hN hown hK hw hk1 dX3_makeOneWay_6 ?_
  refine T_callv hw (va_runV (own := "Leastreader$Maker") (As := [.int (0 : Int32), .int (μ k1 3)]) (rest := []) ⟨hx, hb, hml, hown, ht⟩ (c_X6_put 16 rfl μ H.size (0 : Int32) (μ k1 3) h) (cwV 2 ht (G_V q_394 q_395 q_396 q_51 q_397) rfl rfl rfl ⟨rfl, hd_7⟩ ⟨Nat.le_of_ble_eq_true rfl, Nat.le_of_ble_eq_true rfl⟩) ⟨TB.blind, (T_recv hK hw (kd_of rfl (by decide)) (ent_6 rfl) cl_6), TB.pre hK hN hw⟩ rfl rfl hl.1 rfl (lv_room (Nat.le_of_ble_eq_true rfl)) dX3_makeOneWay_9 ⟨Nat.le_of_ble_eq_true rfl, Nat.le_of_ble_eq_true rfl⟩) (fun μ1 H locs h hw => ?_)
  refine lv_aload_n hx hb dX3_makeOneWay_12 rfl (lv_at hl 2 rfl) ?_
  refine lv_iconst (v := (1 : Int32)) hx hb dX3_makeOneWay_13 (by decide) ?_
  refine pgf_X3_83 hx hb ht hown hK hw hk2 dX3_makeOneWay_14 (fun H locs hw => ?_)
  refine lv_aload_n hx hb dX3_makeOneWay_17 rfl (lv_at hl 2 rfl) ?_
  refine lv_iconst (v := (0 : Int32)) hx hb dX3_makeOneWay_18 (by decide) ?_
  refine pgf_X3_86 hx hb ht hown hK hw hk2 dX3_makeOneWay_19 (fun H locs hw => ?_)
  refine lv_iconst (v := (0 : Int32)) hx hb dX3_makeOneWay_22 (by decide) ?_
  refine lv_istore_n (lv' := [(3, .int (0 : Int32)), (0, .ref (ad 15)), (1, .ref (ad k1)), (2, .ref (ad k2))]) hx hb dX3_makeOneWay_23 rfl hl (by decide) rfl (fun ls hl => ?_)
  obtain ⟨n29, h⟩ := h
  have L1 : ∀ (n : Nat) (v3 : Int32) (μ4 : TMem) (H : Heap) (locs : List Loc) (ls : Array Slot), TW D ad cI cM s μ4 H locs → lv_has ls 7 [(3, .int v3), (0, .ref (ad 15)), (1, .ref (ad k1)), (2, .ref (ad k2))] → wpl_X3_makeOneWay_24 k1 k2 Q n v3 μ4 → W p l e (RM 2) s m #[.ref (ad 15), .ref (ad k1), .ref (ad k2)] below meth c H locs 0 0 Z (F0 m 24 ls []) := by
    intro n
    induction n with
    | zero => intro v3 μ4 H locs ls hw hl h; exact False.elim h
    | succ n ih1 =>
      intro v3 μ4 H locs ls hw hl h
      change ((32 : Int32) ≤ v3 → (Q (1 : Int32) μ4)) ∧ (¬ (32 : Int32) ≤ v3 → (((μ4 k2 1) ≤ v3 → (Q (1 : Int32) μ4)) ∧ (¬ (μ4 k2 1) ≤ v3 → (wp_X6_at 16 μ4 v3 (fun (r7 : Int32) => ∀ J10 : Int32 → Prop, (∀ (j11 : Int32), (wp_X9_withOrWithout (μ4 k2 2) v3 j11 (fun (r12 : Int32) => ∃ n12x, wpl_X3_makeOneWay_78 k1 k2 r7 v3 (fun (μ27 : TMem) => wpl_X3_makeOneWay_24 k1 k2 Q n (v3 + (1 : Int32)) μ27) Q n12x (0 : Int32) (tms μ4 k2 2 r12))) → J10 j11) → (((r7 &&& (μ4 k1 2)) = 0 → (J10 (0 : Int32))) ∧ (¬ (r7 &&& (μ4 k1 2)) = 0 → (J10 (1 : Int32))))))))) at h
      refine lv_iload_n hx hb dX3_makeOneWay_24 rfl (lv_at hl 0 rfl) ?_
      refine lv_bipush (v := (32 : Int32)) hx hb dX3_makeOneWay_25 (by decide) ?_
      refine lv_icmp_ge (tgt := 128) hx hb dX3_makeOneWay_27 (by decide) (fun c5 => ?_) (fun c5 => ?_)
      · have h := h.1 c5
        refine lv_iconst (v := (1 : Int32)) hx hb dX3_makeOneWay_128 (by decide) ?_
        exact hret H locs ls 129 _ _ hw h rfl dX3_makeOneWay_129
      have h := h.2 c5
      refine lv_iload_n hx hb dX3_makeOneWay_30 rfl (lv_at hl 0 rfl) ?_
      refine lv_aload_n hx hb dX3_makeOneWay_31 rfl (lv_at hl 3 rfl) ?_
      refine gf_X3_83 hx hb ht hown hK hw hk2 dX3_makeOneWay_32 ?_
      refine lv_icmp_ge (tgt := 128) hx hb dX3_makeOneWay_35 (by decide) (fun c6 => ?_) (fun c6 => ?_)
      · have h := h.1 c6
        refine lv_iconst (v := (1 : Int32)) hx hb dX3_makeOneWay_128 (by decide) ?_
        exact hret H locs ls 129 _ _ hw h rfl dX3_makeOneWay_129
      have h := h.2 c6
      refine lv_aload_n hx hb dX3_makeOneWay_38 rfl (lv_at hl 1 rfl) ?_
      refine gf_X3_14 hx hb ht hown hK hw rfl dX3_makeOneWay_39 ?_
      refine W.eq (g2 := F0 m 42 ls [.ref (ad 16)]) rfl ?_
      refine lv_iload_n hx hb dX3_makeOneWay_42 rfl (lv_at hl 0 rfl) ?_
      refine T_calli hw (va_runV (own := "Leastreader$Maker") (As := [.int v3]) (rest := []) ⟨hx, hb, hml, hown, ht⟩ (c_X6_at 16 rfl μ4 H.size v3 h) (cwV 1 ht (G_V q_398 q_399 q_400 q_51 q_401) rfl rfl rfl ⟨rfl, hd_8⟩ ⟨Nat.le_of_ble_eq_true rfl, Nat.le_of_ble_eq_true rfl⟩) ⟨TB.blind, (T_recv hK hw (kd_of rfl (by decide)) (ent_6 rfl) cl_6), TB.pre hK hN hw⟩ rfl rfl hl.1 rfl (lv_room (Nat.le_of_ble_eq_true rfl)) dX3_makeOneWay_43 ⟨Nat.le_of_ble_eq_true rfl, Nat.le_of_ble_eq_true rfl⟩) (fun r7 μ8 H locs h hw => ?_)
      obtain ⟨e9, h⟩ := h
      rw [e9] at hw
      refine lv_istore (lv' := [(4, .int r7), (3, .int v3), (0, .ref (ad 15)), (1, .ref (ad k1)), (2, .ref (ad k2))]) hx hb dX3_makeOneWay_46 hl (by decide) rfl (fun ls hl => ?_)
      refine lv_aload_n hx hb dX3_makeOneWay_48 rfl (lv_at hl 4 rfl) ?_
      refine lv_aload_n hx hb dX3_makeOneWay_49 rfl (lv_at hl 4 rfl) ?_
      refine gf_X3_86 hx hb ht hown hK hw hk2 dX3_makeOneWay_50 ?_
      refine lv_iload_n hx hb dX3_makeOneWay_53 rfl (lv_at hl 1 rfl) ?_
      refine lv_iload hx hb dX3_makeOneWay_54 (lv_at hl 0 rfl) ?_
      refine lv_aload_n hx hb dX3_makeOneWay_56 rfl (lv_at hl 3 rfl) ?_
      refine gf_X3_93 hx hb ht hown hK hw hk1 dX3_makeOneWay_57 ?_
      refine lv_iand hx hb dX3_makeOneWay_60 ?_
      have h := h (fun j11 => ∀ (H : Heap) (locs : List Loc) (ls : Array Slot), TW D ad cI cM s μ4 H locs → lv_has ls 7 [(4, .int r7), (3, .int v3), (0, .ref (ad 15)), (1, .ref (ad k1)), (2, .ref (ad k2))] → W p l e (RM 2) s m #[.ref (ad 15), .ref (ad k1), .ref (ad k2)] below meth c H locs 0 0 Z (F0 m 69 ls [.int j11, .int v3, .int (μ4 k2 2), .ref (ad k2)])) (fun j11 h H locs ls hw hl => by
        refine P_calli (va_runSN (own := "Leastreader$Maker") (As := [.int (μ4 k2 2), .int v3, .int j11]) (rest := [.ref (ad k2)]) ⟨hx, hb, hml, hown, ht⟩ (c_X9_withOrWithout (μ4 k2 2) v3 j11 h) ⟨va_cnB 3 ht (G_ws q_404) rfl rfl rfl (nw_402 hN) (ht _ q_46) hd_9 ⟨Nat.le_of_ble_eq_true rfl, Nat.le_of_ble_eq_true rfl⟩, ht _ q_403, trivial⟩ ⟨PM_blind, PM_pre⟩ rfl rfl hl.1 rfl (lv_room (Nat.le_of_ble_eq_true rfl)) dX3_makeOneWay_69 ⟨Nat.le_of_ble_eq_true rfl, Nat.le_of_ble_eq_true rfl⟩) (fun r12 h => ?_)
        refine pgf_X3_86 hx hb ht hown hK hw hk2 dX3_makeOneWay_72 (fun H locs hw => ?_)
        refine lv_iconst (v := (0 : Int32)) hx hb dX3_makeOneWay_75 (by decide) ?_
        refine lv_istore (lv' := [(5, .int (0 : Int32)), (4, .int r7), (3, .int v3), (0, .ref (ad 15)), (1, .ref (ad k1)), (2, .ref (ad k2))]) hx hb dX3_makeOneWay_76 hl (by decide) rfl (fun ls hl => ?_)
        obtain ⟨n26, h⟩ := h
        have L12 : ∀ (v15 : Int32) (v16 : Int32) (K122 : TMem → Prop), (∀ (μ17 : TMem) (H : Heap) (locs : List Loc) (ls : Array Slot), TW D ad cI cM s μ17 H locs → lv_has ls 7 [(3, .int v16), (0, .ref (ad 15)), (1, .ref (ad k1)), (2, .ref (ad k2))] → K122 μ17 → W p l e (RM 2) s m #[.ref (ad 15), .ref (ad k1), .ref (ad k2)] below meth c H locs 0 0 Z (F0 m 122 ls [])) → ∀ (n : Nat) (v14 : Int32) (μ17 : TMem) (H : Heap) (locs : List Loc) (ls : Array Slot), TW D ad cI cM s μ17 H locs → lv_has ls 7 [(5, .int v14), (4, .int v15), (3, .int v16), (0, .ref (ad 15)), (1, .ref (ad k1)), (2, .ref (ad k2))] → wpl_X3_makeOneWay_78 k1 k2 v15 v16 K122 Q n v14 μ17 → W p l e (RM 2) s m #[.ref (ad 15), .ref (ad k1), .ref (ad k2)] below meth c H locs 0 0 Z (F0 m 78 ls []) := by
          intro v15 v16 K122 hK122
          intro n
          induction n with
          | zero => intro v14 μ17 H locs ls hw hl h; exact False.elim h
          | succ n ih12 =>
            intro v14 μ17 H locs ls hw hl h
            change ((3 : Int32) ≤ v14 → (K122 μ17)) ∧ (¬ (3 : Int32) ≤ v14 → (wp_X2_reach k1 μ17 v15 v14 (fun (r19 : Int32) => wp_X3_numberOf k2 μ17 r19 (fun (r23 : Int32) (μ22 : TMem) => (¬ r23 = (-1 : Int32) → (wp_X7_put k2 μ22 v16 v14 r23 (fun (μ25 : TMem) => wpl_X3_makeOneWay_78 k1 k2 v15 v16 K122 Q n (v14 + (1 : Int32)) μ25))) ∧ (r23 = (-1 : Int32) → (Q (0 : Int32) μ22)))))) at h
            refine lv_iload hx hb dX3_makeOneWay_78 (lv_at hl 0 rfl) ?_
            refine lv_iconst (v := (3 : Int32)) hx hb dX3_makeOneWay_80 (by decide) ?_
            refine lv_icmp_ge (tgt := 122) hx hb dX3_makeOneWay_81 (by decide) (fun c18 => ?_) (fun c18 => ?_)
            · have h := h.1 c18
              exact hK122 μ17 H locs ls hw (lv_sub hl [2, 3, 4, 5] rfl) h
            have h := h.2 c18
            refine lv_aload_n hx hb dX3_makeOneWay_84 rfl (lv_at hl 3 rfl) ?_
            refine lv_aload_n hx hb dX3_makeOneWay_85 rfl (lv_at hl 4 rfl) ?_
            refine lv_iload hx hb dX3_makeOneWay_86 (lv_at hl 1 rfl) ?_
            refine lv_iload hx hb dX3_makeOneWay_88 (lv_at hl 0 rfl) ?_
            refine T_calli hw (va_runV (own := "Leastreader$Maker") (As := [.int v15, .int v14]) (rest := [.ref (ad 15)]) ⟨hx, hb, hml, hown, ht⟩ (c_X2_reach k1 hk1 μ17 H.size v15 v14 h) (cwV 2 ht (G_V q_405 q_406 q_407 q_48 q_408) rfl rfl rfl ⟨rfl, hd_10⟩ ⟨Nat.le_of_ble_eq_true rfl, Nat.le_of_ble_eq_true rfl⟩) ⟨TB.blind, (T_recv hK hw (kd_of hk1 (by decide)) (ent_2 hk1) cl_2), TB.pre hK hN hw⟩ rfl rfl hl.1 rfl (lv_room (Nat.le_of_ble_eq_true rfl)) dX3_makeOneWay_90 ⟨Nat.le_of_ble_eq_true rfl, Nat.le_of_ble_eq_true rfl⟩) (fun r19 μ20 H locs h hw => ?_)
            obtain ⟨e21, h⟩ := h
            rw [e21] at hw
            refine lv_aload_n hx hb dX3_makeOneWay_93 rfl (lv_at hl 5 rfl) ?_
            refine T_calli hw (va_runV (own := "Leastreader$Maker") (As := [.int r19, .ref (ad k2)]) (rest := []) ⟨hx, hb, hml, hown, ht⟩ (c_X3_numberOf k2 hk2 μ17 H.size r19 h) (cwV 2 ht (G_V q_418 q_420 q_2 q_50 q_421) rfl rfl rfl ⟨rfl, hd_11⟩ ⟨Nat.le_of_ble_eq_true rfl, Nat.le_of_ble_eq_true rfl⟩) ⟨TB.blind, (T_recv hK hw (kd_of rfl (by decide)) (ent_3 rfl) cl_3), TB.pre hK hN hw⟩ rfl rfl hl.1 rfl (lv_room (Nat.le_of_ble_eq_true rfl)) dX3_makeOneWay_94 ⟨Nat.le_of_ble_eq_true rfl, Nat.le_of_ble_eq_true rfl⟩) (fun r23 μ22 H locs h hw => ?_)
            refine lv_istore (lv' := [(6, .int r23), (5, .int v14), (4, .int v15), (3, .int v16), (0, .ref (ad 15)), (1, .ref (ad k1)), (2, .ref (ad k2))]) hx hb dX3_makeOneWay_97 hl (by decide) rfl (fun ls hl => ?_)
            refine lv_iload hx hb dX3_makeOneWay_99 (lv_at hl 0 rfl) ?_
            refine lv_iconst (v := (-1 : Int32)) hx hb dX3_makeOneWay_101 (by decide) ?_
            refine lv_icmp_ne (tgt := 107) hx hb dX3_makeOneWay_102 (by decide) (fun c24 => ?_) (fun c24 => ?_)
            · have h := h.1 c24
              refine lv_aload_n hx hb dX3_makeOneWay_107 rfl (lv_at hl 6 rfl) ?_
              refine lv_iload_n hx hb dX3_makeOneWay_108 rfl (lv_at hl 3 rfl) ?_
              refine lv_iload hx hb dX3_makeOneWay_109 (lv_at hl 1 rfl) ?_
              refine lv_iload hx hb dX3_makeOneWay_111 (lv_at hl 0 rfl) ?_
              refine T_callv hw (va_runU (own := "Leastreader$Maker") (As := [.int v16, .int v14, .int r23]) (rest := []) ⟨hx, hb, hml, hown, ht⟩ (c_X7_put_5 k2 hk2 μ22 H.size v16 v14 r23 h) (va_cwU (owner := "Leastreader$Table") 3 ht (G_U q_426 q_427 q_429 q_430 q_47 q_431) rfl rfl rfl rfl hd_1 ⟨Nat.le_of_ble_eq_true rfl, Nat.le_of_ble_eq_true rfl⟩) ⟨TB.blind, (T_recv hK hw (kd_of hk2 (by decide)) (ent_5 hk2) cl_5), TB.pre hK hN hw⟩ rfl rfl hl.1 rfl (lv_room (Nat.le_of_ble_eq_true rfl)) dX3_makeOneWay_113 ⟨Nat.le_of_ble_eq_true rfl, Nat.le_of_ble_eq_true rfl⟩) (fun μ25 H locs h hw => ?_)
              refine lv_iinc (v := (v14 + (1 : Int32))) (lv' := [(5, .int (v14 + (1 : Int32))), (6, .int r23), (4, .int v15), (3, .int v16), (0, .ref (ad 15)), (1, .ref (ad k1)), (2, .ref (ad k2))]) hx hb dX3_makeOneWay_116 hl (k := 1) rfl rfl (by decide) rfl (fun ls hl => ?_)
              refine lv_goto (tgt := 78) hx hb dX3_makeOneWay_119 (by decide) ?_
              exact ih12 (v14 + (1 : Int32)) μ25 H locs ls hw (lv_sub hl [0, 2, 3, 4, 5, 6] rfl) h
            have h := h.2 c24
            refine lv_iconst (v := (0 : Int32)) hx hb dX3_makeOneWay_105 (by decide) ?_
            exact hret H locs ls 106 _ _ hw h rfl dX3_makeOneWay_106
        refine L12 r7 v3 _ ?_ n26 (0 : Int32) (tms μ4 k2 2 r12) H locs ls hw (lv_sub hl [0, 1, 2, 3, 4, 5] rfl) h
        intro μ27 H locs ls hw hl h
        refine lv_iinc (v := (v3 + (1 : Int32))) (lv' := [(3, .int (v3 + (1 : Int32))), (0, .ref (ad 15)), (1, .ref (ad k1)), (2, .ref (ad k2))]) hx hb dX3_makeOneWay_122 hl (k := 0) rfl rfl (by decide) rfl (fun ls hl => ?_)
        refine lv_goto (tgt := 24) hx hb dX3_makeOneWay_125 (by decide) ?_
        exact ih1 (v3 + (1 : Int32)) μ27 H locs ls hw (lv_sub hl [0, 1, 2, 3] rfl) h)
      refine lv_if_eq (tgt := 68) hx hb dX3_makeOneWay_61 (by decide) (fun c28 => ?_) (fun c28 => ?_)
      · have h := h.1 c28
        refine lv_iconst (v := (0 : Int32)) hx hb dX3_makeOneWay_68 (by decide) ?_
        exact h H locs ls hw (lv_sub hl [0, 1, 2, 3, 4] rfl)
      have h := h.2 c28
      refine lv_iconst (v := (1 : Int32)) hx hb dX3_makeOneWay_64 (by decide) ?_
      refine lv_goto (tgt := 69) hx hb dX3_makeOneWay_65 (by decide) ?_
      exact h H locs ls hw (lv_sub hl [0, 1, 2, 3, 4] rfl)
  exact L1 n29 (0 : Int32) (tms (tms μ1 k2 1 (1 : Int32)) k2 2 (0 : Int32)) H locs ls hw (lv_sub hl [0, 1, 2, 3] rfl) h
def wpl_X6_fill_2 (k0 : Nat) (v3 : Int32) (Q : TMem → Prop) : Nat → Int32 → TMem → Prop
  | 0, _, _ => False
  | n + 1, v2, μ4 =>
    ((nI (tl (k0 + 1))) ≤ v2 → (Q μ4)) ∧ (¬ (nI (tl (k0 + 1))) ≤ v2 → (vp_in v2 (tl (k0 + 1)) ∧ (wpl_X6_fill_2 k0 v3 Q n (v2 + (1 : Int32)) (tms μ4 (k0 + 1) v2.toNatClampNeg v3))))
def wp_X6_fill (k0 : Nat) (μ : TMem) (a1 : Int32) (Q : TMem → Prop) : Prop :=
  ∃ n0x, wpl_X6_fill_2 k0 a1 Q n0x (0 : Int32) μ
set_option maxHeartbeats 4000000 in
set_option maxRecDepth 100000 in
theorem c_X6_fill {l : Launch} {D : va_G} {ad : Nat → Nat} {cI cM : ClassId} (k0 : Nat) (hk0 : kd k0 = 6) (μ : TMem) (sz : Nat) (a1 : Int32) {Q : TMem → Prop} (h : wp_X6_fill k0 μ a1 Q) : TMv l yX6_fill (.code yX6_fill cX6_fill 3 (Option.none : Option Jvm.ClassFile.FieldType)) 0 [.ref (ad k0), .int a1] D ad cI cM sz μ Q := by
  refine T_metv (by decide +kernel) (Nat.le_of_ble_eq_true rfl) ?_
  intro p e s m below meth c Z ls hx hb hml hown ht hN hK hw hret hl
  have hl : lv_has ls 3 [(0, .ref (ad k0)), (1, .int a1)] := hl
  generalize s.heap = H at hw ⊢
  generalize ([] : List Loc) = locs at hw ⊢
  change ∃ n0x, wpl_X6_fill_2 k0 a1 Q n0x (0 : Int32) μ at h
  refine lv_iconst (v := (0 : Int32)) hx hb dX6_fill_0 (by decide) ?_
  refine lv_istore_n (lv' := [(2, .int (0 : Int32)), (0, .ref (ad k0)), (1, .int a1)]) hx hb dX6_fill_1 rfl hl (by decide) rfl (fun ls hl => ?_)
  obtain ⟨n7, h⟩ := h
  have L0 : ∀ (v3 : Int32), ∀ (n : Nat) (v2 : Int32) (μ4 : TMem) (H : Heap) (locs : List Loc) (ls : Array Slot), TW D ad cI cM s μ4 H locs → lv_has ls 3 [(2, .int v2), (0, .ref (ad k0)), (1, .int v3)] → wpl_X6_fill_2 k0 v3 Q n v2 μ4 → W p l e (RM 0) s m #[.ref (ad k0), .int a1] below meth c H locs 0 0 Z (F0 m 2 ls []) := by
    intro v3
    intro n
    induction n with
    | zero => intro v2 μ4 H locs ls hw hl h; exact False.elim h
    | succ n ih0 =>
      intro v2 μ4 H locs ls hw hl h
      change ((nI (tl (k0 + 1))) ≤ v2 → (Q μ4)) ∧ (¬ (nI (tl (k0 + 1))) ≤ v2 → (vp_in v2 (tl (k0 + 1)) ∧ (wpl_X6_fill_2 k0 v3 Q n (v2 + (1 : Int32)) (tms μ4 (k0 + 1) v2.toNatClampNeg v3)))) at h
      refine lv_iload_n hx hb dX6_fill_2 rfl (lv_at hl 0 rfl) ?_
      refine lv_aload_n hx hb dX6_fill_3 rfl (lv_at hl 1 rfl) ?_
      refine gf_X6_9 hx hb ht hown hK hw hk0 dX6_fill_4 ?_
      refine t_alen hx hb hK hw (ka_6 hk0) dX6_fill_7 ?_
      refine lv_icmp_ge (tgt := 24) hx hb dX6_fill_8 (by decide) (fun c5 => ?_) (fun c5 => ?_)
      · have h := h.1 c5
        exact hret H locs ls 24 _ hw h dX6_fill_24
      have h := h.2 c5
      refine lv_aload_n hx hb dX6_fill_11 rfl (lv_at hl 1 rfl) ?_
      refine gf_X6_9 hx hb ht hown hK hw hk0 dX6_fill_12 ?_
      refine lv_iload_n hx hb dX6_fill_15 rfl (lv_at hl 0 rfl) ?_
      refine lv_iload_n hx hb dX6_fill_16 rfl (lv_at hl 2 rfl) ?_
      obtain ⟨z6, h⟩ := h
      refine t_iast hx hb hK hw (ka_6 hk0) z6 dX6_fill_17 (fun H locs hw => ?_)
      refine lv_iinc (v := (v2 + (1 : Int32))) (lv' := [(2, .int (v2 + (1 : Int32))), (0, .ref (ad k0)), (1, .int v3)]) hx hb dX6_fill_18 hl (k := 0) rfl rfl (by decide) rfl (fun ls hl => ?_)
      refine lv_goto (tgt := 2) hx hb dX6_fill_21 (by decide) ?_
      exact ih0 (v2 + (1 : Int32)) (tms μ4 (k0 + 1) v2.toNatClampNeg v3) H locs ls hw (lv_sub hl [0, 1, 2] rfl) h
  exact L0 a1 n7 (0 : Int32) μ H locs ls hw (lv_sub hl [0, 1, 2] rfl) h
def wp_X4_isGoal (μ : TMem) (a1 : Int32) (a2 : Int32) (Q : Int32 → Prop) : Prop :=
  wp_X6_at 36 μ a1 (fun (r1 : Int32) => wp_X9_isIn (μ 35 6) r1 (fun (r4 : Int32) => wp_X6_at 38 μ a1 (fun (r5 : Int32) => wp_X9_isIn (μ 35 7) r5 (fun (r8 : Int32) => (a2 = (0 : Int32) → ((¬ r4 = 0 → (Q (1 : Int32))) ∧ (r4 = 0 → ((r8 = 0 → (Q (0 : Int32))) ∧ (¬ r8 = 0 → (Q (1 : Int32))))))) ∧ (¬ a2 = (0 : Int32) → (a2 = (1 : Int32) → ((r4 = 0 → (Q (0 : Int32))) ∧ (¬ r4 = 0 → ((r8 = 0 → (Q (0 : Int32))) ∧ (¬ r8 = 0 → (Q (1 : Int32))))))) ∧ (¬ a2 = (1 : Int32) → (a2 = (2 : Int32) → ((r4 = 0 → (Q (0 : Int32))) ∧ (¬ r4 = 0 → ((¬ r8 = 0 → (Q (0 : Int32))) ∧ (r8 = 0 → (Q (1 : Int32))))))) ∧ (¬ a2 = (2 : Int32) → ((r4 = r8 → (Q (0 : Int32))) ∧ (¬ r4 = r8 → (Q (1 : Int32)))))))))))
set_option maxHeartbeats 4000000 in
set_option maxRecDepth 100000 in
theorem c_X4_isGoal {l : Launch} {D : va_G} {ad : Nat → Nat} {cI cM : ClassId}  (μ : TMem) (sz : Nat) (a1 : Int32) (a2 : Int32) {Q : Int32 → Prop} (h : wp_X4_isGoal μ a1 a2 Q) : TMi l yX4_isGoal (.code yX4_isGoal cX4_isGoal 5 (Option.some Jvm.ClassFile.FieldType.boolean)) 1 [.ref (ad 35), .int a1, .int a2] D ad cI cM sz μ (fun r μ1 => μ1 = μ ∧ Q r) := by
  refine T_meti (by decide +kernel) (Nat.le_of_ble_eq_true rfl) ?_
  intro p e s m below meth c Z ls hx hb hml hown ht hN hK hw hret hl
  have hl : lv_has ls 5 [(0, .ref (ad 35)), (1, .int a1), (2, .int a2)] := hl
  generalize s.heap = H at hw ⊢
  generalize ([] : List Loc) = locs at hw ⊢
  change wp_X6_at 36 μ a1 (fun (r1 : Int32) => wp_X9_isIn (μ 35 6) r1 (fun (r4 : Int32) => wp_X6_at 38 μ a1 (fun (r5 : Int32) => wp_X9_isIn (μ 35 7) r5 (fun (r8 : Int32) => (a2 = (0 : Int32) → ((¬ r4 = 0 → (Q (1 : Int32))) ∧ (r4 = 0 → ((r8 = 0 → (Q (0 : Int32))) ∧ (¬ r8 = 0 → (Q (1 : Int32))))))) ∧ (¬ a2 = (0 : Int32) → (a2 = (1 : Int32) → ((r4 = 0 → (Q (0 : Int32))) ∧ (¬ r4 = 0 → ((r8 = 0 → (Q (0 : Int32))) ∧ (¬ r8 = 0 → (Q (1 : Int32))))))) ∧ (¬ a2 = (1 : Int32) → (a2 = (2 : Int32) → ((r4 = 0 → (Q (0 : Int32))) ∧ (¬ r4 = 0 → ((¬ r8 = 0 → (Q (0 : Int32))) ∧ (r8 = 0 → (Q (1 : Int32))))))) ∧ (¬ a2 = (2 : Int32) → ((r4 = r8 → (Q (0 : Int32))) ∧ (¬ r4 = r8 → (Q (1 : Int32))))))))))) at h
  refine lv_aload_n hx hb dX4_isGoal_0 rfl (lv_at hl 0 rfl) ?_
  refine gf_X4_44 hx hb ht hown hK hw rfl dX4_isGoal_1 ?_
  refine lv_aload_n hx hb dX4_isGoal_4 rfl (lv_at hl 0 rfl) ?_
  refine gf_X4_14 hx hb ht hown hK hw rfl dX4_isGoal_5 ?_
  refine W.eq (g2 := F0 m 8 ls [.ref (ad 36), .int (μ 35 6)]) rfl ?_
  refine lv_iload_n hx hb dX4_isGoal_8 rfl (lv_at hl 1 rfl) ?_
  refine T_calli hw (va_runV (own := "Leastreader$Meeting") (As := [.int a1]) (rest := [.int (μ 35 6)]) ⟨hx, hb, hml, hown, ht⟩ (c_X6_at 36 rfl μ H.size a1 h) (cwV 1 ht (G_V q_803 q_399 q_400 q_51 q_401) rfl rfl rfl ⟨rfl, hd_8⟩ ⟨Nat.le_of_ble_eq_true rfl, Nat.le_of_ble_eq_true rfl⟩) ⟨TB.blind, (T_recv hK hw (kd_of rfl (by decide)) (ent_6 rfl) cl_6), TB.pre hK hN hw⟩ rfl rfl hl.1 rfl (lv_room (Nat.le_of_ble_eq_true rfl)) dX4_isGoal_9 ⟨Nat.le_of_ble_eq_true rfl, Nat.le_of_ble_eq_true rfl⟩) (fun r1 μ2 H locs h hw => ?_)
  obtain ⟨e3, h⟩ := h
  rw [e3] at hw
  refine P_calli (va_runSN (own := "Leastreader$Meeting") (As := [.int (μ 35 6), .int r1]) (rest := []) ⟨hx, hb, hml, hown, ht⟩ (c_X9_isIn (μ 35 6) r1 h) ⟨va_cnB 2 ht (G_ws q_411) rfl rfl rfl (nw_804 hN) (ht _ q_46) hd_5 ⟨Nat.le_of_ble_eq_true rfl, Nat.le_of_ble_eq_true rfl⟩, ht _ q_410, trivial⟩ ⟨PM_blind, PM_pre⟩ rfl rfl hl.1 rfl (lv_room (Nat.le_of_ble_eq_true rfl)) dX4_isGoal_12 ⟨Nat.le_of_ble_eq_true rfl, Nat.le_of_ble_eq_true rfl⟩) (fun r4 h => ?_)
  refine lv_istore_n (lv' := [(3, .int r4), (0, .ref (ad 35)), (1, .int a1), (2, .int a2)]) hx hb dX4_isGoal_15 rfl hl (by decide) rfl (fun ls hl => ?_)
  refine lv_aload_n hx hb dX4_isGoal_16 rfl (lv_at hl 1 rfl) ?_
  refine gf_X4_47 hx hb ht hown hK hw rfl dX4_isGoal_17 ?_
  refine lv_aload_n hx hb dX4_isGoal_20 rfl (lv_at hl 1 rfl) ?_
  refine gf_X4_20 hx hb ht hown hK hw rfl dX4_isGoal_21 ?_
  refine W.eq (g2 := F0 m 24 ls [.ref (ad 38), .int (μ 35 7)]) rfl ?_
  refine lv_iload_n hx hb dX4_isGoal_24 rfl (lv_at hl 2 rfl) ?_
  refine T_calli hw (va_runV (own := "Leastreader$Meeting") (As := [.int a1]) (rest := [.int (μ 35 7)]) ⟨hx, hb, hml, hown, ht⟩ (c_X6_at 38 rfl μ H.size a1 h) (cwV 1 ht (G_V q_803 q_399 q_400 q_51 q_401) rfl rfl rfl ⟨rfl, hd_8⟩ ⟨Nat.le_of_ble_eq_true rfl, Nat.le_of_ble_eq_true rfl⟩) ⟨TB.blind, (T_recv hK hw (kd_of rfl (by decide)) (ent_6 rfl) cl_6), TB.pre hK hN hw⟩ rfl rfl hl.1 rfl (lv_room (Nat.le_of_ble_eq_true rfl)) dX4_isGoal_25 ⟨Nat.le_of_ble_eq_true rfl, Nat.le_of_ble_eq_true rfl⟩) (fun r5 μ6 H locs h hw => ?_)
  obtain ⟨e7, h⟩ := h
  rw [e7] at hw
  refine P_calli (va_runSN (own := "Leastreader$Meeting") (As := [.int (μ 35 7), .int r5]) (rest := []) ⟨hx, hb, hml, hown, ht⟩ (c_X9_isIn (μ 35 7) r5 h) ⟨va_cnB 2 ht (G_ws q_411) rfl rfl rfl (nw_804 hN) (ht _ q_46) hd_5 ⟨Nat.le_of_ble_eq_true rfl, Nat.le_of_ble_eq_true rfl⟩, ht _ q_410, trivial⟩ ⟨PM_blind, PM_pre⟩ rfl rfl hl.1 rfl (lv_room (Nat.le_of_ble_eq_true rfl)) dX4_isGoal_28 ⟨Nat.le_of_ble_eq_true rfl, Nat.le_of_ble_eq_true rfl⟩) (fun r8 h => ?_)
  refine lv_istore (lv' := [(4, .int r8), (3, .int r4), (0, .ref (ad 35)), (1, .int a1), (2, .int a2)]) hx hb dX4_isGoal_31 hl (by decide) rfl (fun ls hl => ?_)
  refine lv_iload_n hx hb dX4_isGoal_33 rfl (lv_at hl 4 rfl) ?_
  by_cases c12 : a2 = (0 : Int32)
  · have h := h.1 c12
    refine lv_tableIn (tgt := 60) hx hb dX4_isGoal_34 (by rw [c12]; decide) (by rw [c12]; decide) (by rw [c12]; rfl) (by decide) ?_
    refine lv_iload_n hx hb dX4_isGoal_60 rfl (lv_at hl 1 rfl) ?_
    refine lv_if_ne (tgt := 69) hx hb dX4_isGoal_61 (by decide) (fun c10 => ?_) (fun c10 => ?_)
    · have h := h.1 c10
      refine lv_iconst (v := (1 : Int32)) hx hb dX4_isGoal_69 (by decide) ?_
      refine lv_goto (tgt := 74) hx hb dX4_isGoal_70 (by decide) ?_
      exact hret H locs ls 74 _ _ hw ⟨rfl, h⟩ rfl dX4_isGoal_74
    have h := h.2 c10
    refine lv_iload hx hb dX4_isGoal_64 (lv_at hl 0 rfl) ?_
    refine lv_if_eq (tgt := 73) hx hb dX4_isGoal_66 (by decide) (fun c11 => ?_) (fun c11 => ?_)
    · have h := h.1 c11
      refine lv_iconst (v := (0 : Int32)) hx hb dX4_isGoal_73 (by decide) ?_
      exact hret H locs ls 74 _ _ hw ⟨rfl, h⟩ rfl dX4_isGoal_74
    have h := h.2 c11
    refine lv_iconst (v := (1 : Int32)) hx hb dX4_isGoal_69 (by decide) ?_
    refine lv_goto (tgt := 74) hx hb dX4_isGoal_70 (by decide) ?_
    exact hret H locs ls 74 _ _ hw ⟨rfl, h⟩ rfl dX4_isGoal_74
  have h := h.2 c12
  by_cases c15 : a2 = (1 : Int32)
  · have h := h.1 c15
    refine lv_tableIn (tgt := 75) hx hb dX4_isGoal_34 (by rw [c15]; decide) (by rw [c15]; decide) (by rw [c15]; rfl) (by decide) ?_
    refine lv_iload_n hx hb dX4_isGoal_75 rfl (lv_at hl 1 rfl) ?_
    refine lv_if_eq (tgt := 88) hx hb dX4_isGoal_76 (by decide) (fun c13 => ?_) (fun c13 => ?_)
    · have h := h.1 c13
      refine lv_iconst (v := (0 : Int32)) hx hb dX4_isGoal_88 (by decide) ?_
      exact hret H locs ls 89 _ _ hw ⟨rfl, h⟩ rfl dX4_isGoal_89
    have h := h.2 c13
    refine lv_iload hx hb dX4_isGoal_79 (lv_at hl 0 rfl) ?_
    refine lv_if_eq (tgt := 88) hx hb dX4_isGoal_81 (by decide) (fun c14 => ?_) (fun c14 => ?_)
    · have h := h.1 c14
      refine lv_iconst (v := (0 : Int32)) hx hb dX4_isGoal_88 (by decide) ?_
      exact hret H locs ls 89 _ _ hw ⟨rfl, h⟩ rfl dX4_isGoal_89
    have h := h.2 c14
    refine lv_iconst (v := (1 : Int32)) hx hb dX4_isGoal_84 (by decide) ?_
    refine lv_goto (tgt := 89) hx hb dX4_isGoal_85 (by decide) ?_
    exact hret H locs ls 89 _ _ hw ⟨rfl, h⟩ rfl dX4_isGoal_89
  have h := h.2 c15
  by_cases c18 : a2 = (2 : Int32)
  · have h := h.1 c18
    refine lv_tableIn (tgt := 90) hx hb dX4_isGoal_34 (by rw [c18]; decide) (by rw [c18]; decide) (by rw [c18]; rfl) (by decide) ?_
    refine lv_iload_n hx hb dX4_isGoal_90 rfl (lv_at hl 1 rfl) ?_
    refine lv_if_eq (tgt := 103) hx hb dX4_isGoal_91 (by decide) (fun c16 => ?_) (fun c16 => ?_)
    · have h := h.1 c16
      refine lv_iconst (v := (0 : Int32)) hx hb dX4_isGoal_103 (by decide) ?_
      exact hret H locs ls 104 _ _ hw ⟨rfl, h⟩ rfl dX4_isGoal_104
    have h := h.2 c16
    refine lv_iload hx hb dX4_isGoal_94 (lv_at hl 0 rfl) ?_
    refine lv_if_ne (tgt := 103) hx hb dX4_isGoal_96 (by decide) (fun c17 => ?_) (fun c17 => ?_)
    · have h := h.1 c17
      refine lv_iconst (v := (0 : Int32)) hx hb dX4_isGoal_103 (by decide) ?_
      exact hret H locs ls 104 _ _ hw ⟨rfl, h⟩ rfl dX4_isGoal_104
    have h := h.2 c17
    refine lv_iconst (v := (1 : Int32)) hx hb dX4_isGoal_99 (by decide) ?_
    refine lv_goto (tgt := 104) hx hb dX4_isGoal_100 (by decide) ?_
    exact hret H locs ls 104 _ _ hw ⟨rfl, h⟩ rfl dX4_isGoal_104
  have h := h.2 c18
  have so20 : (a2).toInt < 0 ∨ 2 < (a2).toInt := sw_out (fun j h1 h2 => by
    rcases (show j = 0 ∨ j = 1 ∨ j = 2 by omega) with rfl | rfl | rfl
    · exact fun q => c12 (q.trans (by decide))
    · exact fun q => c15 (q.trans (by decide))
    · exact fun q => c18 (q.trans (by decide)))
  refine lv_tableOut (tgt := 105) hx hb dX4_isGoal_34 so20 (by decide) ?_
  refine lv_iload_n hx hb dX4_isGoal_105 rfl (lv_at hl 1 rfl) ?_
  refine lv_iload hx hb dX4_isGoal_106 (lv_at hl 0 rfl) ?_
  refine lv_icmp_eq (tgt := 115) hx hb dX4_isGoal_108 (by decide) (fun c19 => ?_) (fun c19 => ?_)
  · have h := h.1 c19
    refine lv_iconst (v := (0 : Int32)) hx hb dX4_isGoal_115 (by decide) ?_
    exact hret H locs ls 116 _ _ hw ⟨rfl, h⟩ rfl dX4_isGoal_116
  have h := h.2 c19
  refine lv_iconst (v := (1 : Int32)) hx hb dX4_isGoal_111 (by decide) ?_
  refine lv_goto (tgt := 116) hx hb dX4_isGoal_112 (by decide) ?_
  exact hret H locs ls 116 _ _ hw ⟨rfl, h⟩ rfl dX4_isGoal_116
def wp_X4_add (μ : TMem) (a1 : Int32) (a2 : Int32) (a3 : Int32) (a4 : Int32) (Q : TMem → Prop) : Prop :=
  wp_X6_put 36 μ (μ 35 8) a1 (fun (μ1 : TMem) => wp_X6_put 38 μ1 (μ1 35 8) a2 (fun (μ2 : TMem) => wp_X6_put 40 μ2 (μ2 35 8) a3 (fun (μ3 : TMem) => wp_X6_put 42 μ3 (μ3 35 8) a4 (fun (μ4 : TMem) => wp_X6_put 46 μ4 ((a1 * (32 : Int32)) + a2) (μ4 35 8) (fun (μ5 : TMem) => (¬ (μ5 35 9) = (-1 : Int32) → (Q (tms μ5 35 8 ((μ5 35 8) + (1 : Int32))))) ∧ ((μ5 35 9) = (-1 : Int32) → (wp_X4_isGoal μ5 (μ5 35 8) (3 : Int32) (fun (r7 : Int32) => (r7 = 0 → (Q (tms μ5 35 8 ((μ5 35 8) + (1 : Int32))))) ∧ (¬ r7 = 0 → (Q (tms (tms μ5 35 9 (μ5 35 8)) 35 8 (((tms μ5 35 9 (μ5 35 8)) 35 8) + (1 : Int32)))))))))))))
set_option maxHeartbeats 4000000 in
set_option maxRecDepth 100000 in
theorem c_X4_add {l : Launch} {D : va_G} {ad : Nat → Nat} {cI cM : ClassId}  (μ : TMem) (sz : Nat) (a1 : Int32) (a2 : Int32) (a3 : Int32) (a4 : Int32) {Q : TMem → Prop} (h : wp_X4_add μ a1 a2 a3 a4 Q) : TMv l yX4_add (.code yX4_add cX4_add 5 (Option.none : Option Jvm.ClassFile.FieldType)) 2 [.ref (ad 35), .int a1, .int a2, .int a3, .int a4] D ad cI cM sz μ Q := by
  refine T_metv (by decide +kernel) (Nat.le_of_ble_eq_true rfl) ?_
  intro p e s m below meth c Z ls hx hb hml hown ht hN hK hw hret hl
  have hl : lv_has ls 5 [(0, .ref (ad 35)), (1, .int a1), (2, .int a2), (3, .int a3), (4, .int a4)] := hl
  generalize s.heap = H at hw ⊢
  generalize ([] : List Loc) = locs at hw ⊢
  change wp_X6_put 36 μ (μ 35 8) a1 (fun (μ1 : TMem) => wp_X6_put 38 μ1 (μ1 35 8) a2 (fun (μ2 : TMem) => wp_X6_put 40 μ2 (μ2 35 8) a3 (fun (μ3 : TMem) => wp_X6_put 42 μ3 (μ3 35 8) a4 (fun (μ4 : TMem) => wp_X6_put 46 μ4 ((a1 * (32 : Int32)) + a2) (μ4 35 8) (fun (μ5 : TMem) => (¬ (μ5 35 9) = (-1 : Int32) → (Q (tms μ5 35 8 ((μ5 35 8) + (1 : Int32))))) ∧ ((μ5 35 9) = (-1 : Int32) → (wp_X4_isGoal μ5 (μ5 35 8) (3 : Int32) (fun (r7 : Int32) => (r7 = 0 → (Q (tms μ5 35 8 ((μ5 35 8) + (1 : Int32))))) ∧ (¬ r7 = 0 → (Q (tms (tms μ5 35 9 (μ5 35 8)) 35 8 (((tms μ5 35 9 (μ5 35 8)) 35 8) + (1 : Int32))))))))))))) at h
  refine lv_aload_n hx hb dX4_add_0 rfl (lv_at hl 0 rfl) ?_
  refine gf_X4_14 hx hb ht hown hK hw rfl dX4_add_1 ?_
  refine W.eq (g2 := F0 m 4 ls [.ref (ad 36)]) rfl ?_
  refine lv_aload_n hx hb dX4_add_4 rfl (lv_at hl 0 rfl) ?_
  refine gf_X4_50 hx hb ht hown hK hw rfl dX4_add_5 ?_
  refine lv_iload_n hx hb dX4_add_8 rfl (lv_at hl 1 rfl) ?_
  refine T_callv hw (va_runV (own := "Leastreader$Meeting") (As := [.int (μ 35 8), .int a1]) (rest := []) ⟨hx, hb, hml, hown, ht⟩ (c_X6_put 36 rfl μ H.size (μ 35 8) a1 h) (cwV 2 ht (G_V q_798 q_395 q_396 q_51 q_397) rfl rfl rfl ⟨rfl, hd_7⟩ ⟨Nat.le_of_ble_eq_true rfl, Nat.le_of_ble_eq_true rfl⟩) ⟨TB.blind, (T_recv hK hw (kd_of rfl (by decide)) (ent_6 rfl) cl_6), TB.pre hK hN hw⟩ rfl rfl hl.1 rfl (lv_room (Nat.le_of_ble_eq_true rfl)) dX4_add_9 ⟨Nat.le_of_ble_eq_true rfl, Nat.le_of_ble_eq_true rfl⟩) (fun μ1 H locs h hw => ?_)
  refine lv_aload_n hx hb dX4_add_12 rfl (lv_at hl 0 rfl) ?_
  refine gf_X4_20 hx hb ht hown hK hw rfl dX4_add_13 ?_
  refine W.eq (g2 := F0 m 16 ls [.ref (ad 38)]) rfl ?_
  refine lv_aload_n hx hb dX4_add_16 rfl (lv_at hl 0 rfl) ?_
  refine gf_X4_50 hx hb ht hown hK hw rfl dX4_add_17 ?_
  refine lv_iload_n hx hb dX4_add_20 rfl (lv_at hl 2 rfl) ?_
  refine T_callv hw (va_runV (own := "Leastreader$Meeting") (As := [.int (μ1 35 8), .int a2]) (rest := []) ⟨hx, hb, hml, hown, ht⟩ (c_X6_put 38 rfl μ1 H.size (μ1 35 8) a2 h) (cwV 2 ht (G_V q_798 q_395 q_396 q_51 q_397) rfl rfl rfl ⟨rfl, hd_7⟩ ⟨Nat.le_of_ble_eq_true rfl, Nat.le_of_ble_eq_true rfl⟩) ⟨TB.blind, (T_recv hK hw (kd_of rfl (by decide)) (ent_6 rfl) cl_6), TB.pre hK hN hw⟩ rfl rfl hl.1 rfl (lv_room (Nat.le_of_ble_eq_true rfl)) dX4_add_21 ⟨Nat.le_of_ble_eq_true rfl, Nat.le_of_ble_eq_true rfl⟩) (fun μ2 H locs h hw => ?_)
  refine lv_aload_n hx hb dX4_add_24 rfl (lv_at hl 0 rfl) ?_
  refine gf_X4_23 hx hb ht hown hK hw rfl dX4_add_25 ?_
  refine W.eq (g2 := F0 m 28 ls [.ref (ad 40)]) rfl ?_
  refine lv_aload_n hx hb dX4_add_28 rfl (lv_at hl 0 rfl) ?_
  refine gf_X4_50 hx hb ht hown hK hw rfl dX4_add_29 ?_
  refine lv_iload_n hx hb dX4_add_32 rfl (lv_at hl 3 rfl) ?_
  refine T_callv hw (va_runV (own := "Leastreader$Meeting") (As := [.int (μ2 35 8), .int a3]) (rest := []) ⟨hx, hb, hml, hown, ht⟩ (c_X6_put 40 rfl μ2 H.size (μ2 35 8) a3 h) (cwV 2 ht (G_V q_798 q_395 q_396 q_51 q_397) rfl rfl rfl ⟨rfl, hd_7⟩ ⟨Nat.le_of_ble_eq_true rfl, Nat.le_of_ble_eq_true rfl⟩) ⟨TB.blind, (T_recv hK hw (kd_of rfl (by decide)) (ent_6 rfl) cl_6), TB.pre hK hN hw⟩ rfl rfl hl.1 rfl (lv_room (Nat.le_of_ble_eq_true rfl)) dX4_add_33 ⟨Nat.le_of_ble_eq_true rfl, Nat.le_of_ble_eq_true rfl⟩) (fun μ3 H locs h hw => ?_)
  refine lv_aload_n hx hb dX4_add_36 rfl (lv_at hl 0 rfl) ?_
  refine gf_X4_26 hx hb ht hown hK hw rfl dX4_add_37 ?_
  refine W.eq (g2 := F0 m 40 ls [.ref (ad 42)]) rfl ?_
  refine lv_aload_n hx hb dX4_add_40 rfl (lv_at hl 0 rfl) ?_
  refine gf_X4_50 hx hb ht hown hK hw rfl dX4_add_41 ?_
  refine lv_iload hx hb dX4_add_44 (lv_at hl 4 rfl) ?_
  refine T_callv hw (va_runV (own := "Leastreader$Meeting") (As := [.int (μ3 35 8), .int a4]) (rest := []) ⟨hx, hb, hml, hown, ht⟩ (c_X6_put 42 rfl μ3 H.size (μ3 35 8) a4 h) (cwV 2 ht (G_V q_798 q_395 q_396 q_51 q_397) rfl rfl rfl ⟨rfl, hd_7⟩ ⟨Nat.le_of_ble_eq_true rfl, Nat.le_of_ble_eq_true rfl⟩) ⟨TB.blind, (T_recv hK hw (kd_of rfl (by decide)) (ent_6 rfl) cl_6), TB.pre hK hN hw⟩ rfl rfl hl.1 rfl (lv_room (Nat.le_of_ble_eq_true rfl)) dX4_add_46 ⟨Nat.le_of_ble_eq_true rfl, Nat.le_of_ble_eq_true rfl⟩) (fun μ4 H locs h hw => ?_)
  refine lv_aload_n hx hb dX4_add_49 rfl (lv_at hl 0 rfl) ?_
  refine gf_X4_32 hx hb ht hown hK hw rfl dX4_add_50 ?_
  refine W.eq (g2 := F0 m 53 ls [.ref (ad 46)]) rfl ?_
  refine lv_iload_n hx hb dX4_add_53 rfl (lv_at hl 1 rfl) ?_
  refine lv_bipush (v := (32 : Int32)) hx hb dX4_add_54 (by decide) ?_
  refine lv_imul hx hb dX4_add_56 ?_
  refine lv_iload_n hx hb dX4_add_57 rfl (lv_at hl 2 rfl) ?_
  refine lv_iadd hx hb dX4_add_58 ?_
  refine lv_aload_n hx hb dX4_add_59 rfl (lv_at hl 0 rfl) ?_
  refine gf_X4_50 hx hb ht hown hK hw rfl dX4_add_60 ?_
  refine T_callv hw (va_runV (own := "Leastreader$Meeting") (As := [.int ((a1 * (32 : Int32)) + a2), .int (μ4 35 8)]) (rest := []) ⟨hx, hb, hml, hown, ht⟩ (c_X6_put 46 rfl μ4 H.size ((a1 * (32 : Int32)) + a2) (μ4 35 8) h) (cwV 2 ht (G_V q_798 q_395 q_396 q_51 q_397) rfl rfl rfl ⟨rfl, hd_7⟩ ⟨Nat.le_of_ble_eq_true rfl, Nat.le_of_ble_eq_true rfl⟩) ⟨TB.blind, (T_recv hK hw (kd_of rfl (by decide)) (ent_6 rfl) cl_6), TB.pre hK hN hw⟩ rfl rfl hl.1 rfl (lv_room (Nat.le_of_ble_eq_true rfl)) dX4_add_63 ⟨Nat.le_of_ble_eq_true rfl, Nat.le_of_ble_eq_true rfl⟩) (fun μ5 H locs h hw => ?_)
  refine lv_aload_n hx hb dX4_add_66 rfl (lv_at hl 0 rfl) ?_
  refine gf_X4_53 hx hb ht hown hK hw rfl dX4_add_67 ?_
  refine lv_iconst (v := (-1 : Int32)) hx hb dX4_add_70 (by decide) ?_
  refine lv_icmp_ne (tgt := 94) hx hb dX4_add_71 (by decide) (fun c6 => ?_) (fun c6 => ?_)
  · have h := h.1 c6
    refine lv_aload_n hx hb dX4_add_94 rfl (lv_at hl 0 rfl) ?_
    refine lv_dup hx hb dX4_add_95 rfl ?_
    refine gf_X4_50 hx hb ht hown hK hw rfl dX4_add_96 ?_
    refine lv_iconst (v := (1 : Int32)) hx hb dX4_add_99 (by decide) ?_
    refine lv_iadd hx hb dX4_add_100 ?_
    refine pgf_X4_50 hx hb ht hown hK hw rfl dX4_add_101 (fun H locs hw => ?_)
    exact hret H locs ls 104 _ hw h dX4_add_104
  have h := h.2 c6
  refine lv_aload_n hx hb dX4_add_74 rfl (lv_at hl 0 rfl) ?_
  refine lv_aload_n hx hb dX4_add_75 rfl (lv_at hl 0 rfl) ?_
  refine gf_X4_50 hx hb ht hown hK hw rfl dX4_add_76 ?_
  refine lv_iconst (v := (3 : Int32)) hx hb dX4_add_79 (by decide) ?_
  refine T_calli hw (va_runV (own := "Leastreader$Meeting") (As := [.int (μ5 35 8), .int (3 : Int32)]) (rest := []) ⟨hx, hb, hml, hown, ht⟩ (c_X4_isGoal μ5 H.size (μ5 35 8) (3 : Int32) h) (cwV 2 ht (G_V q_799 q_800 q_801 q_54 q_802) rfl rfl rfl ⟨rfl, hd_12⟩ ⟨Nat.le_of_ble_eq_true rfl, Nat.le_of_ble_eq_true rfl⟩) ⟨TB.blind, (T_recv hK hw (kd_of rfl (by decide)) (ent_4 rfl) cl_4), TB.pre hK hN hw⟩ rfl rfl hl.1 rfl (lv_room (Nat.le_of_ble_eq_true rfl)) dX4_add_80 ⟨Nat.le_of_ble_eq_true rfl, Nat.le_of_ble_eq_true rfl⟩) (fun r7 μ8 H locs h hw => ?_)
  obtain ⟨e9, h⟩ := h
  rw [e9] at hw
  refine lv_if_eq (tgt := 94) hx hb dX4_add_83 (by decide) (fun c10 => ?_) (fun c10 => ?_)
  · have h := h.1 c10
    refine lv_aload_n hx hb dX4_add_94 rfl (lv_at hl 0 rfl) ?_
    refine lv_dup hx hb dX4_add_95 rfl ?_
    refine gf_X4_50 hx hb ht hown hK hw rfl dX4_add_96 ?_
    refine lv_iconst (v := (1 : Int32)) hx hb dX4_add_99 (by decide) ?_
    refine lv_iadd hx hb dX4_add_100 ?_
    refine pgf_X4_50 hx hb ht hown hK hw rfl dX4_add_101 (fun H locs hw => ?_)
    exact hret H locs ls 104 _ hw h dX4_add_104
  have h := h.2 c10
  refine lv_aload_n hx hb dX4_add_86 rfl (lv_at hl 0 rfl) ?_
  refine lv_aload_n hx hb dX4_add_87 rfl (lv_at hl 0 rfl) ?_
  refine gf_X4_50 hx hb ht hown hK hw rfl dX4_add_88 ?_
  refine pgf_X4_53 hx hb ht hown hK hw rfl dX4_add_91 (fun H locs hw => ?_)
  refine lv_aload_n hx hb dX4_add_94 rfl (lv_at hl 0 rfl) ?_
  refine lv_dup hx hb dX4_add_95 rfl ?_
  refine gf_X4_50 hx hb ht hown hK hw rfl dX4_add_96 ?_
  refine lv_iconst (v := (1 : Int32)) hx hb dX4_add_99 (by decide) ?_
  refine lv_iadd hx hb dX4_add_100 ?_
  refine pgf_X4_50 hx hb ht hown hK hw rfl dX4_add_101 (fun H locs hw => ?_)
  exact hret H locs ls 104 _ hw h dX4_add_104
end
/-! part 22.m3 -/
section
def wpl_X4_meet_63 (k1 : Nat) (k2 : Nat) (v12 : Int32) (v13 : Int32) (v14 : Int32) (K194 : TMem → Prop) (Q : Int32 → TMem → Prop) : Nat → Int32 → TMem → Prop
  | 0, _, _ => False
  | n + 1, v11, μ15 =>
    ((3 : Int32) ≤ v11 → (K194 μ15)) ∧ (¬ (3 : Int32) ≤ v11 → (((μ15 35 9) = (-1 : Int32) → (wp_X6_at 36 μ15 v12 (fun (r18 : Int32) => wp_X7_at k1 μ15 r18 v11 (fun (r21 : Int32) => wp_X6_at 38 μ15 v12 (fun (r24 : Int32) => wp_X7_at k2 μ15 r24 v11 (fun (r27 : Int32) => wp_X6_at 46 μ15 ((r21 * (32 : Int32)) + r27) (fun (r30 : Int32) => (¬ r30 = (-1 : Int32) → (wp_X6_at 46 μ15 ((r21 * (32 : Int32)) + r27) (fun (r34 : Int32) => wp_X6_put 44 μ15 ((v12 * (3 : Int32)) + v11) r34 (fun (μ37 : TMem) => wpl_X4_meet_63 k1 k2 v12 v13 v14 K194 Q n (v11 + (1 : Int32)) μ37)))) ∧ (r30 = (-1 : Int32) → (((μ15 35 8) < v13 → (wp_X4_add μ15 r21 r27 v12 v11 (fun (μ39 : TMem) => wp_X6_at 46 μ39 ((r21 * (32 : Int32)) + r27) (fun (r40 : Int32) => wp_X6_put 44 μ39 ((v12 * (3 : Int32)) + v11) r40 (fun (μ43 : TMem) => wpl_X4_meet_63 k1 k2 v12 v13 v14 K194 Q n (v11 + (1 : Int32)) μ43))))) ∧ (¬ (μ15 35 8) < v13 → (Q (0 : Int32) μ15))))))))))) ∧ (¬ (μ15 35 9) = (-1 : Int32) → ((¬ v14 = 0 → (wp_X6_at 36 μ15 v12 (fun (r45 : Int32) => wp_X7_at k1 μ15 r45 v11 (fun (r48 : Int32) => wp_X6_at 38 μ15 v12 (fun (r51 : Int32) => wp_X7_at k2 μ15 r51 v11 (fun (r54 : Int32) => wp_X6_at 46 μ15 ((r48 * (32 : Int32)) + r54) (fun (r57 : Int32) => (¬ r57 = (-1 : Int32) → (wp_X6_at 46 μ15 ((r48 * (32 : Int32)) + r54) (fun (r61 : Int32) => wp_X6_put 44 μ15 ((v12 * (3 : Int32)) + v11) r61 (fun (μ64 : TMem) => wpl_X4_meet_63 k1 k2 v12 v13 v14 K194 Q n (v11 + (1 : Int32)) μ64)))) ∧ (r57 = (-1 : Int32) → (((μ15 35 8) < v13 → (wp_X4_add μ15 r48 r54 v12 v11 (fun (μ66 : TMem) => wp_X6_at 46 μ66 ((r48 * (32 : Int32)) + r54) (fun (r67 : Int32) => wp_X6_put 44 μ66 ((v12 * (3 : Int32)) + v11) r67 (fun (μ70 : TMem) => wpl_X4_meet_63 k1 k2 v12 v13 v14 K194 Q n (v11 + (1 : Int32)) μ70))))) ∧ (¬ (μ15 35 8) < v13 → (Q (0 : Int32) μ15))))))))))) ∧ (v14 = 0 → (Q (1 : Int32) μ15))))))
def wpl_X4_meet_45 (k1 : Nat) (k2 : Nat) (v5 : Int32) (v6 : Int32) (Q : Int32 → TMem → Prop) : Nat → Int32 → TMem → Prop
  | 0, _, _ => False
  | n + 1, v4, μ7 =>
    (v5 ≤ v4 → (Q (1 : Int32) μ7)) ∧ (¬ v5 ≤ v4 → (((μ7 35 8) ≤ v4 → (Q (1 : Int32) μ7)) ∧ (¬ (μ7 35 8) ≤ v4 → (∃ n9x, wpl_X4_meet_63 k1 k2 v4 v5 v6 (fun (μ72 : TMem) => wpl_X4_meet_45 k1 k2 v5 v6 Q n (v4 + (1 : Int32)) μ72) Q n9x (0 : Int32) μ7))))
def wp_X4_meet (k1 : Nat) (k2 : Nat) (μ : TMem) (a3 : Int32) (a4 : Int32) (Q : Int32 → TMem → Prop) : Prop :=
  wp_X6_fill 46 μ (-1 : Int32) (fun (μ1 : TMem) => wp_X4_add (tms (tms (tms (tms μ1 35 6 (μ1 k1 2)) 35 7 ((tms μ1 35 6 (μ1 k1 2)) k2 2)) 35 8 (0 : Int32)) 35 9 (-1 : Int32)) (0 : Int32) (0 : Int32) (-1 : Int32) (-1 : Int32) (fun (μ2 : TMem) => ∃ n2x, wpl_X4_meet_45 k1 k2 a3 a4 Q n2x (0 : Int32) μ2))
set_option maxHeartbeats 4000000 in
set_option maxRecDepth 100000 in
theorem c_X4_meet {l : Launch} {D : va_G} {ad : Nat → Nat} {cI cM : ClassId} (k1 : Nat) (hk1 : kd k1 = 5) (k2 : Nat) (hk2 : kd k2 = 5) (μ : TMem) (sz : Nat) (a3 : Int32) (a4 : Int32) {Q : Int32 → TMem → Prop} (h : wp_X4_meet k1 k2 μ a3 a4 Q) : TMi l yX4_meet (.code yX4_meet cX4_meet 9 (Option.some Jvm.ClassFile.FieldType.boolean)) 3 [.ref (ad 35), .ref (ad k1), .ref (ad k2), .int a3, .int a4] D ad cI cM sz μ Q := by
  refine T_meti (by decide +kernel) (Nat.le_of_ble_eq_true rfl) ?_
  intro p e s m below meth c Z ls hx hb hml hown ht hN hK hw hret hl
  have hl : lv_has ls 9 [(0, .ref (ad 35)), (1, .ref (ad k1)), (2, .ref (ad k2)), (3, .int a3), (4, .int a4)] := hl
  generalize s.heap = H at hw ⊢
  generalize ([] : List Loc) = locs at hw ⊢
  change wp_X6_fill 46 μ (-1 : Int32) (fun (μ1 : TMem) => wp_X4_add (tms (tms (tms (tms μ1 35 6 (μ1 k1 2)) 35 7 ((tms μ1 35 6 (μ1 k1 2)) k2 2)) 35 8 (0 : Int32)) 35 9 (-1 : Int32)) (0 : Int32) (0 : Int32) (-1 : Int32) (-1 : Int32) (fun (μ2 : TMem) => ∃ n2x, wpl_X4_meet_45 k1 k2 a3 a4 Q n2x (0 : Int32) μ2)) at h
  refine lv_aload_n hx hb dX4_meet_0 rfl (lv_at hl 0 rfl) ?_
  refine gf_X4_32 hx hb ht hown hK hw rfl dX4_meet_1 ?_
  refine W.eq (g2 := F0 m 4 ls [.ref (ad 46)]) rfl ?_
  refine lv_iconst (v := (-1 : Int32)) hx hb dX4_meet_4 (by decide) ?_
  refine T_callv hw (va_runV (own := "Leastreader$Meeting") (As := [.int (-1 : Int32)]) (rest := []) ⟨hx, hb, hml, hown, ht⟩ (c_X6_fill 46 rfl μ H.size (-1 : Int32) h) (cwV 1 ht (G_V q_793 q_503 q_504 q_51 q_505) rfl rfl rfl ⟨rfl, hd_13⟩ ⟨Nat.le_of_ble_eq_true rfl, Nat.le_of_ble_eq_true rfl⟩) ⟨TB.blind, (T_recv hK hw (kd_of rfl (by decide)) (ent_6 rfl) cl_6), TB.pre hK hN hw⟩ rfl rfl hl.1 rfl (lv_room (Nat.le_of_ble_eq_true rfl)) dX4_meet_5 ⟨Nat.le_of_ble_eq_true rfl, Nat.le_of_ble_eq_true rfl⟩) (fun μ1 H locs h hw => ?_)
  refine lv_aload_n hx hb dX4_meet_8 rfl (lv_at hl 0 rfl) ?_
  refine lv_aload_n hx hb dX4_meet_9 rfl (lv_at hl 1 rfl) ?_
  refine gf_X4_38 hx hb ht hown hK hw hk1 dX4_meet_10 ?_
  refine pgf_X4_44 hx hb ht hown hK hw rfl dX4_meet_13 (fun H locs hw => ?_)
  refine lv_aload_n hx hb dX4_meet_16 rfl (lv_at hl 0 rfl) ?_
  refine lv_aload_n hx hb dX4_meet_17 rfl (lv_at hl 2 rfl) ?_
  refine gf_X4_38 hx hb ht hown hK hw hk2 dX4_meet_18 ?_
  refine pgf_X4_47 hx hb ht hown hK hw rfl dX4_meet_21 (fun H locs hw => ?_)
  refine lv_aload_n hx hb dX4_meet_24 rfl (lv_at hl 0 rfl) ?_
  refine lv_iconst (v := (0 : Int32)) hx hb dX4_meet_25 (by decide) ?_
  refine pgf_X4_50 hx hb ht hown hK hw rfl dX4_meet_26 (fun H locs hw => ?_)
  refine lv_aload_n hx hb dX4_meet_29 rfl (lv_at hl 0 rfl) ?_
  refine lv_iconst (v := (-1 : Int32)) hx hb dX4_meet_30 (by decide) ?_
  refine pgf_X4_53 hx hb ht hown hK hw rfl dX4_meet_31 (fun H locs hw => ?_)
  refine lv_aload_n hx hb dX4_meet_34 rfl (lv_at hl 0 rfl) ?_
  refine lv_iconst (v := (0 : Int32)) hx hb dX4_meet_35 (by decide) ?_
  refine lv_iconst (v := (0 : Int32)) hx hb dX4_meet_36 (by decide) ?_
  refine lv_iconst (v := (-1 : Int32)) hx hb dX4_meet_37 (by decide) ?_
  refine lv_iconst (v := (-1 : Int32)) hx hb dX4_meet_38 (by decide) ?_
  refine T_callv hw (va_runV (own := "Leastreader$Meeting") (As := [.int (0 : Int32), .int (0 : Int32), .int (-1 : Int32), .int (-1 : Int32)]) (rest := []) ⟨hx, hb, hml, hown, ht⟩ (c_X4_add (tms (tms (tms (tms μ1 35 6 (μ1 k1 2)) 35 7 ((tms μ1 35 6 (μ1 k1 2)) k2 2)) 35 8 (0 : Int32)) 35 9 (-1 : Int32)) H.size (0 : Int32) (0 : Int32) (-1 : Int32) (-1 : Int32) h) (cwV 4 ht (G_V q_794 q_796 q_20 q_54 q_797) rfl rfl rfl ⟨rfl, hd_14⟩ ⟨Nat.le_of_ble_eq_true rfl, Nat.le_of_ble_eq_true rfl⟩) ⟨TB.blind, (T_recv hK hw (kd_of rfl (by decide)) (ent_4 rfl) cl_4), TB.pre hK hN hw⟩ rfl rfl hl.1 rfl (lv_room (Nat.le_of_ble_eq_true rfl)) dX4_meet_39 ⟨Nat.le_of_ble_eq_true rfl, Nat.le_of_ble_eq_true rfl⟩) (fun μ2 H locs h hw => ?_)
  refine lv_iconst (v := (0 : Int32)) hx hb dX4_meet_42 (by decide) ?_
  refine lv_istore (lv' := [(5, .int (0 : Int32)), (0, .ref (ad 35)), (1, .ref (ad k1)), (2, .ref (ad k2)), (3, .int a3), (4, .int a4)]) hx hb dX4_meet_43 hl (by decide) rfl (fun ls hl => ?_)
  obtain ⟨n73, h⟩ := h
  have L2 : ∀ (v5 : Int32) (v6 : Int32), ∀ (n : Nat) (v4 : Int32) (μ7 : TMem) (H : Heap) (locs : List Loc) (ls : Array Slot), TW D ad cI cM s μ7 H locs → lv_has ls 9 [(5, .int v4), (0, .ref (ad 35)), (1, .ref (ad k1)), (2, .ref (ad k2)), (3, .int v5), (4, .int v6)] → wpl_X4_meet_45 k1 k2 v5 v6 Q n v4 μ7 → W p l e (RM 3) s m #[.ref (ad 35), .ref (ad k1), .ref (ad k2), .int a3, .int a4] below meth c H locs 0 0 Z (F0 m 45 ls []) := by
    intro v5 v6
    intro n
    induction n with
    | zero => intro v4 μ7 H locs ls hw hl h; exact False.elim h
    | succ n ih2 =>
      intro v4 μ7 H locs ls hw hl h
      change (v5 ≤ v4 → (Q (1 : Int32) μ7)) ∧ (¬ v5 ≤ v4 → (((μ7 35 8) ≤ v4 → (Q (1 : Int32) μ7)) ∧ (¬ (μ7 35 8) ≤ v4 → (∃ n9x, wpl_X4_meet_63 k1 k2 v4 v5 v6 (fun (μ72 : TMem) => wpl_X4_meet_45 k1 k2 v5 v6 Q n (v4 + (1 : Int32)) μ72) Q n9x (0 : Int32) μ7)))) at h
      refine lv_iload hx hb dX4_meet_45 (lv_at hl 0 rfl) ?_
      refine lv_iload_n hx hb dX4_meet_47 rfl (lv_at hl 4 rfl) ?_
      refine lv_icmp_ge (tgt := 200) hx hb dX4_meet_48 (by decide) (fun c8 => ?_) (fun c8 => ?_)
      · have h := h.1 c8
        refine lv_iconst (v := (1 : Int32)) hx hb dX4_meet_200 (by decide) ?_
        exact hret H locs ls 201 _ _ hw h rfl dX4_meet_201
      have h := h.2 c8
      refine lv_iload hx hb dX4_meet_51 (lv_at hl 0 rfl) ?_
      refine lv_aload_n hx hb dX4_meet_53 rfl (lv_at hl 1 rfl) ?_
      refine gf_X4_50 hx hb ht hown hK hw rfl dX4_meet_54 ?_
      refine lv_icmp_ge (tgt := 200) hx hb dX4_meet_57 (by decide) (fun c9 => ?_) (fun c9 => ?_)
      · have h := h.1 c9
        refine lv_iconst (v := (1 : Int32)) hx hb dX4_meet_200 (by decide) ?_
        exact hret H locs ls 201 _ _ hw h rfl dX4_meet_201
      have h := h.2 c9
      refine lv_iconst (v := (0 : Int32)) hx hb dX4_meet_60 (by decide) ?_
      refine lv_istore (lv' := [(6, .int (0 : Int32)), (5, .int v4), (0, .ref (ad 35)), (1, .ref (ad k1)), (2, .ref (ad k2)), (3, .int v5), (4, .int v6)]) hx hb dX4_meet_61 hl (by decide) rfl (fun ls hl => ?_)
      obtain ⟨n71, h⟩ := h
      have L9 : ∀ (v12 : Int32) (v13 : Int32) (v14 : Int32) (K194 : TMem → Prop), (∀ (μ15 : TMem) (H : Heap) (locs : List Loc) (ls : Array Slot), TW D ad cI cM s μ15 H locs → lv_has ls 9 [(5, .int v12), (0, .ref (ad 35)), (1, .ref (ad k1)), (2, .ref (ad k2)), (3, .int v13), (4, .int v14)] → K194 μ15 → W p l e (RM 3) s m #[.ref (ad 35), .ref (ad k1), .ref (ad k2), .int a3, .int a4] below meth c H locs 0 0 Z (F0 m 194 ls [])) → ∀ (n : Nat) (v11 : Int32) (μ15 : TMem) (H : Heap) (locs : List Loc) (ls : Array Slot), TW D ad cI cM s μ15 H locs → lv_has ls 9 [(6, .int v11), (5, .int v12), (0, .ref (ad 35)), (1, .ref (ad k1)), (2, .ref (ad k2)), (3, .int v13), (4, .int v14)] → wpl_X4_meet_63 k1 k2 v12 v13 v14 K194 Q n v11 μ15 → W p l e (RM 3) s m #[.ref (ad 35), .ref (ad k1), .ref (ad k2), .int a3, .int a4] below meth c H locs 0 0 Z (F0 m 63 ls []) := by
        intro v12 v13 v14 K194 hK194
        intro n
        induction n with
        | zero => intro v11 μ15 H locs ls hw hl h; exact False.elim h
        | succ n ih9 =>
          intro v11 μ15 H locs ls hw hl h
          change ((3 : Int32) ≤ v11 → (K194 μ15)) ∧ (¬ (3 : Int32) ≤ v11 → (((μ15 35 9) = (-1 : Int32) → (wp_X6_at 36 μ15 v12 (fun (r18 : Int32) => wp_X7_at k1 μ15 r18 v11 (fun (r21 : Int32) => wp_X6_at 38 μ15 v12 (fun (r24 : Int32) => wp_X7_at k2 μ15 r24 v11 (fun (r27 : Int32) => wp_X6_at 46 μ15 ((r21 * (32 : Int32)) + r27) (fun (r30 : Int32) => (¬ r30 = (-1 : Int32) → (wp_X6_at 46 μ15 ((r21 * (32 : Int32)) + r27) (fun (r34 : Int32) => wp_X6_put 44 μ15 ((v12 * (3 : Int32)) + v11) r34 (fun (μ37 : TMem) => wpl_X4_meet_63 k1 k2 v12 v13 v14 K194 Q n (v11 + (1 : Int32)) μ37)))) ∧ (r30 = (-1 : Int32) → (((μ15 35 8) < v13 → (wp_X4_add μ15 r21 r27 v12 v11 (fun (μ39 : TMem) => wp_X6_at 46 μ39 ((r21 * (32 : Int32)) + r27) (fun (r40 : Int32) => wp_X6_put 44 μ39 ((v12 * (3 : Int32)) + v11) r40 (fun (μ43 : TMem) => wpl_X4_meet_63 k1 k2 v12 v13 v14 K194 Q n (v11 + (1 : Int32)) μ43))))) ∧ (¬ (μ15 35 8) < v13 → (Q (0 : Int32) μ15))))))))))) ∧ (¬ (μ15 35 9) = (-1 : Int32) → ((¬ v14 = 0 → (wp_X6_at 36 μ15 v12 (fun (r45 : Int32) => wp_X7_at k1 μ15 r45 v11 (fun (r48 : Int32) => wp_X6_at 38 μ15 v12 (fun (r51 : Int32) => wp_X7_at k2 μ15 r51 v11 (fun (r54 : Int32) => wp_X6_at 46 μ15 ((r48 * (32 : Int32)) + r54) (fun (r57 : Int32) => (¬ r57 = (-1 : Int32) → (wp_X6_at 46 μ15 ((r48 * (32 : Int32)) + r54) (fun (r61 : Int32) => wp_X6_put 44 μ15 ((v12 * (3 : Int32)) + v11) r61 (fun (μ64 : TMem) => wpl_X4_meet_63 k1 k2 v12 v13 v14 K194 Q n (v11 + (1 : Int32)) μ64)))) ∧ (r57 = (-1 : Int32) → (((μ15 35 8) < v13 → (wp_X4_add μ15 r48 r54 v12 v11 (fun (μ66 : TMem) => wp_X6_at 46 μ66 ((r48 * (32 : Int32)) + r54) (fun (r67 : Int32) => wp_X6_put 44 μ66 ((v12 * (3 : Int32)) + v11) r67 (fun (μ70 : TMem) => wpl_X4_meet_63 k1 k2 v12 v13 v14 K194 Q n (v11 + (1 : Int32)) μ70))))) ∧ (¬ (μ15 35 8) < v13 → (Q (0 : Int32) μ15))))))))))) ∧ (v14 = 0 → (Q (1 : Int32) μ15)))))) at h
          refine lv_iload hx hb dX4_meet_63 (lv_at hl 0 rfl) ?_
          refine lv_iconst (v := (3 : Int32)) hx hb dX4_meet_65 (by decide) ?_
          refine lv_icmp_ge (tgt := 194) hx hb dX4_meet_66 (by decide) (fun c16 => ?_) (fun c16 => ?_)
          · have h := h.1 c16
            exact hK194 μ15 H locs ls hw (lv_sub hl [1, 2, 3, 4, 5, 6] rfl) h
          have h := h.2 c16
          refine lv_aload_n hx hb dX4_meet_69 rfl (lv_at hl 2 rfl) ?_
          refine gf_X4_53 hx hb ht hown hK hw rfl dX4_meet_70 ?_
          refine lv_iconst (v := (-1 : Int32)) hx hb dX4_meet_73 (by decide) ?_
          refine lv_icmp_eq (tgt := 84) hx hb dX4_meet_74 (by decide) (fun c17 => ?_) (fun c17 => ?_)
          · have h := h.1 c17
            refine lv_aload_n hx hb dX4_meet_84 rfl (lv_at hl 3 rfl) ?_
            refine lv_aload_n hx hb dX4_meet_85 rfl (lv_at hl 2 rfl) ?_
            refine gf_X4_14 hx hb ht hown hK hw rfl dX4_meet_86 ?_
            refine W.eq (g2 := F0 m 89 ls [.ref (ad 36), .ref (ad k1)]) rfl ?_
            refine lv_iload hx hb dX4_meet_89 (lv_at hl 1 rfl) ?_
            refine T_calli hw (va_runV (own := "Leastreader$Meeting") (As := [.int v12]) (rest := [.ref (ad k1)]) ⟨hx, hb, hml, hown, ht⟩ (c_X6_at 36 rfl μ15 H.size v12 h) (cwV 1 ht (G_V q_803 q_399 q_400 q_51 q_401) rfl rfl rfl ⟨rfl, hd_8⟩ ⟨Nat.le_of_ble_eq_true rfl, Nat.le_of_ble_eq_true rfl⟩) ⟨TB.blind, (T_recv hK hw (kd_of rfl (by decide)) (ent_6 rfl) cl_6), TB.pre hK hN hw⟩ rfl rfl hl.1 rfl (lv_room (Nat.le_of_ble_eq_true rfl)) dX4_meet_91 ⟨Nat.le_of_ble_eq_true rfl, Nat.le_of_ble_eq_true rfl⟩) (fun r18 μ19 H locs h hw => ?_)
            obtain ⟨e20, h⟩ := h
            rw [e20] at hw
            refine lv_iload hx hb dX4_meet_94 (lv_at hl 0 rfl) ?_
            refine T_calli hw (va_runU (own := "Leastreader$Meeting") (As := [.int r18, .int v11]) (rest := []) ⟨hx, hb, hml, hown, ht⟩ (c_X7_at_5 k1 hk1 μ15 H.size r18 v11 h) (va_cwU (owner := "Leastreader$Table") 2 ht (G_U q_805 q_452 q_453 q_416 q_47 q_417) rfl rfl rfl rfl hd_0 ⟨Nat.le_of_ble_eq_true rfl, Nat.le_of_ble_eq_true rfl⟩) ⟨TB.blind, (T_recv hK hw (kd_of hk1 (by decide)) (ent_5 hk1) cl_5), TB.pre hK hN hw⟩ rfl rfl hl.1 rfl (lv_room (Nat.le_of_ble_eq_true rfl)) dX4_meet_96 ⟨Nat.le_of_ble_eq_true rfl, Nat.le_of_ble_eq_true rfl⟩) (fun r21 μ22 H locs h hw => ?_)
            obtain ⟨e23, h⟩ := h
            rw [e23] at hw
            refine lv_istore (lv' := [(7, .int r21), (6, .int v11), (5, .int v12), (0, .ref (ad 35)), (1, .ref (ad k1)), (2, .ref (ad k2)), (3, .int v13), (4, .int v14)]) hx hb dX4_meet_99 hl (by decide) rfl (fun ls hl => ?_)
            refine lv_aload_n hx hb dX4_meet_101 rfl (lv_at hl 5 rfl) ?_
            refine lv_aload_n hx hb dX4_meet_102 rfl (lv_at hl 3 rfl) ?_
            refine gf_X4_20 hx hb ht hown hK hw rfl dX4_meet_103 ?_
            refine W.eq (g2 := F0 m 106 ls [.ref (ad 38), .ref (ad k2)]) rfl ?_
            refine lv_iload hx hb dX4_meet_106 (lv_at hl 2 rfl) ?_
            refine T_calli hw (va_runV (own := "Leastreader$Meeting") (As := [.int v12]) (rest := [.ref (ad k2)]) ⟨hx, hb, hml, hown, ht⟩ (c_X6_at 38 rfl μ15 H.size v12 h) (cwV 1 ht (G_V q_803 q_399 q_400 q_51 q_401) rfl rfl rfl ⟨rfl, hd_8⟩ ⟨Nat.le_of_ble_eq_true rfl, Nat.le_of_ble_eq_true rfl⟩) ⟨TB.blind, (T_recv hK hw (kd_of rfl (by decide)) (ent_6 rfl) cl_6), TB.pre hK hN hw⟩ rfl rfl hl.1 rfl (lv_room (Nat.le_of_ble_eq_true rfl)) dX4_meet_108 ⟨Nat.le_of_ble_eq_true rfl, Nat.le_of_ble_eq_true rfl⟩) (fun r24 μ25 H locs h hw => ?_)
            obtain ⟨e26, h⟩ := h
            rw [e26] at hw
            refine lv_iload hx hb dX4_meet_111 (lv_at hl 1 rfl) ?_
            refine T_calli hw (va_runU (own := "Leastreader$Meeting") (As := [.int r24, .int v11]) (rest := []) ⟨hx, hb, hml, hown, ht⟩ (c_X7_at_5 k2 hk2 μ15 H.size r24 v11 h) (va_cwU (owner := "Leastreader$Table") 2 ht (G_U q_805 q_452 q_453 q_416 q_47 q_417) rfl rfl rfl rfl hd_0 ⟨Nat.le_of_ble_eq_true rfl, Nat.le_of_ble_eq_true rfl⟩) ⟨TB.blind, (T_recv hK hw (kd_of hk2 (by decide)) (ent_5 hk2) cl_5), TB.pre hK hN hw⟩ rfl rfl hl.1 rfl (lv_room (Nat.le_of_ble_eq_true rfl)) dX4_meet_113 ⟨Nat.le_of_ble_eq_true rfl, Nat.le_of_ble_eq_true rfl⟩) (fun r27 μ28 H locs h hw => ?_)
            obtain ⟨e29, h⟩ := h
            rw [e29] at hw
            refine lv_istore (lv' := [(8, .int r27), (7, .int r21), (6, .int v11), (5, .int v12), (0, .ref (ad 35)), (1, .ref (ad k1)), (2, .ref (ad k2)), (3, .int v13), (4, .int v14)]) hx hb dX4_meet_116 hl (by decide) rfl (fun ls hl => ?_)
            refine lv_aload_n hx hb dX4_meet_118 rfl (lv_at hl 4 rfl) ?_
            refine gf_X4_32 hx hb ht hown hK hw rfl dX4_meet_119 ?_
            refine W.eq (g2 := F0 m 122 ls [.ref (ad 46)]) rfl ?_
            refine lv_iload hx hb dX4_meet_122 (lv_at hl 1 rfl) ?_
            refine lv_bipush (v := (32 : Int32)) hx hb dX4_meet_124 (by decide) ?_
            refine lv_imul hx hb dX4_meet_126 ?_
            refine lv_iload hx hb dX4_meet_127 (lv_at hl 0 rfl) ?_
            refine lv_iadd hx hb dX4_meet_129 ?_
            refine T_calli hw (va_runV (own := "Leastreader$Meeting") (As := [.int ((r21 * (32 : Int32)) + r27)]) (rest := []) ⟨hx, hb, hml, hown, ht⟩ (c_X6_at 46 rfl μ15 H.size ((r21 * (32 : Int32)) + r27) h) (cwV 1 ht (G_V q_803 q_399 q_400 q_51 q_401) rfl rfl rfl ⟨rfl, hd_8⟩ ⟨Nat.le_of_ble_eq_true rfl, Nat.le_of_ble_eq_true rfl⟩) ⟨TB.blind, (T_recv hK hw (kd_of rfl (by decide)) (ent_6 rfl) cl_6), TB.pre hK hN hw⟩ rfl rfl hl.1 rfl (lv_room (Nat.le_of_ble_eq_true rfl)) dX4_meet_130 ⟨Nat.le_of_ble_eq_true rfl, Nat.le_of_ble_eq_true rfl⟩) (fun r30 μ31 H locs h hw => ?_)
            obtain ⟨e32, h⟩ := h
            rw [e32] at hw
            refine lv_iconst (v := (-1 : Int32)) hx hb dX4_meet_133 (by decide) ?_
            refine lv_icmp_ne (tgt := 159) hx hb dX4_meet_134 (by decide) (fun c33 => ?_) (fun c33 => ?_)
            · have h := h.1 c33
              refine lv_aload_n hx hb dX4_meet_159 rfl (lv_at hl 4 rfl) ?_
              refine gf_X4_29 hx hb ht hown hK hw rfl dX4_meet_160 ?_
              refine W.eq (g2 := F0 m 163 ls [.ref (ad 44)]) rfl ?_
              refine lv_iload hx hb dX4_meet_163 (lv_at hl 3 rfl) ?_
              refine lv_iconst (v := (3 : Int32)) hx hb dX4_meet_165 (by decide) ?_
              refine lv_imul hx hb dX4_meet_166 ?_
              refine lv_iload hx hb dX4_meet_167 (lv_at hl 2 rfl) ?_
              refine lv_iadd hx hb dX4_meet_169 ?_
              refine lv_aload_n hx hb dX4_meet_170 rfl (lv_at hl 4 rfl) ?_
              refine gf_X4_32 hx hb ht hown hK hw rfl dX4_meet_171 ?_
              refine W.eq (g2 := F0 m 174 ls [.ref (ad 46), .int ((v12 * (3 : Int32)) + v11), .ref (ad 44)]) rfl ?_
              refine lv_iload hx hb dX4_meet_174 (lv_at hl 1 rfl) ?_
              refine lv_bipush (v := (32 : Int32)) hx hb dX4_meet_176 (by decide) ?_
              refine lv_imul hx hb dX4_meet_178 ?_
              refine lv_iload hx hb dX4_meet_179 (lv_at hl 0 rfl) ?_
              refine lv_iadd hx hb dX4_meet_181 ?_
              refine T_calli hw (va_runV (own := "Leastreader$Meeting") (As := [.int ((r21 * (32 : Int32)) + r27)]) (rest := [.int ((v12 * (3 : Int32)) + v11), .ref (ad 44)]) ⟨hx, hb, hml, hown, ht⟩ (c_X6_at 46 rfl μ15 H.size ((r21 * (32 : Int32)) + r27) h) (cwV 1 ht (G_V q_803 q_399 q_400 q_51 q_401) rfl rfl rfl ⟨rfl, hd_8⟩ ⟨Nat.le_of_ble_eq_true rfl, Nat.le_of_ble_eq_true rfl⟩) ⟨TB.blind, (T_recv hK hw (kd_of rfl (by decide)) (ent_6 rfl) cl_6), TB.pre hK hN hw⟩ rfl rfl hl.1 rfl (lv_room (Nat.le_of_ble_eq_true rfl)) dX4_meet_182 ⟨Nat.le_of_ble_eq_true rfl, Nat.le_of_ble_eq_true rfl⟩) (fun r34 μ35 H locs h hw => ?_)
              obtain ⟨e36, h⟩ := h
              rw [e36] at hw
              refine T_callv hw (va_runV (own := "Leastreader$Meeting") (As := [.int ((v12 * (3 : Int32)) + v11), .int r34]) (rest := []) ⟨hx, hb, hml, hown, ht⟩ (c_X6_put 44 rfl μ15 H.size ((v12 * (3 : Int32)) + v11) r34 h) (cwV 2 ht (G_V q_798 q_395 q_396 q_51 q_397) rfl rfl rfl ⟨rfl, hd_7⟩ ⟨Nat.le_of_ble_eq_true rfl, Nat.le_of_ble_eq_true rfl⟩) ⟨TB.blind, (T_recv hK hw (kd_of rfl (by decide)) (ent_6 rfl) cl_6), TB.pre hK hN hw⟩ rfl rfl hl.1 rfl (lv_room (Nat.le_of_ble_eq_true rfl)) dX4_meet_185 ⟨Nat.le_of_ble_eq_true rfl, Nat.le_of_ble_eq_true rfl⟩) (fun μ37 H locs h hw => ?_)
              refine lv_iinc (v := (v11 + (1 : Int32))) (lv' := [(6, .int (v11 + (1 : Int32))), (8, .int r27), (7, .int r21), (5, .int v12), (0, .ref (ad 35)), (1, .ref (ad k1)), (2, .ref (ad k2)), (3, .int v13), (4, .int v14)]) hx hb dX4_meet_188 hl (k := 2) rfl rfl (by decide) rfl (fun ls hl => ?_)
              refine lv_goto (tgt := 63) hx hb dX4_meet_191 (by decide) ?_
              exact ih9 (v11 + (1 : Int32)) μ37 H locs ls hw (lv_sub hl [0, 3, 4, 5, 6, 7, 8] rfl) h
            have h := h.2 c33
            refine lv_aload_n hx hb dX4_meet_137 rfl (lv_at hl 4 rfl) ?_
            refine gf_X4_50 hx hb ht hown hK hw rfl dX4_meet_138 ?_
            refine lv_iload_n hx hb dX4_meet_141 rfl (lv_at hl 7 rfl) ?_
            refine lv_icmp_lt (tgt := 147) hx hb dX4_meet_142 (by decide) (fun c38 => ?_) (fun c38 => ?_)
            · have h := h.1 c38
              refine lv_aload_n hx hb dX4_meet_147 rfl (lv_at hl 4 rfl) ?_
              refine lv_iload hx hb dX4_meet_148 (lv_at hl 1 rfl) ?_
              refine lv_iload hx hb dX4_meet_150 (lv_at hl 0 rfl) ?_
              refine lv_iload hx hb dX4_meet_152 (lv_at hl 3 rfl) ?_
              refine lv_iload hx hb dX4_meet_154 (lv_at hl 2 rfl) ?_
              refine T_callv hw (va_runV (own := "Leastreader$Meeting") (As := [.int r21, .int r27, .int v12, .int v11]) (rest := []) ⟨hx, hb, hml, hown, ht⟩ (c_X4_add μ15 H.size r21 r27 v12 v11 h) (cwV 4 ht (G_V q_794 q_796 q_20 q_54 q_797) rfl rfl rfl ⟨rfl, hd_14⟩ ⟨Nat.le_of_ble_eq_true rfl, Nat.le_of_ble_eq_true rfl⟩) ⟨TB.blind, (T_recv hK hw (kd_of rfl (by decide)) (ent_4 rfl) cl_4), TB.pre hK hN hw⟩ rfl rfl hl.1 rfl (lv_room (Nat.le_of_ble_eq_true rfl)) dX4_meet_156 ⟨Nat.le_of_ble_eq_true rfl, Nat.le_of_ble_eq_true rfl⟩) (fun μ39 H locs h hw => ?_)
              refine lv_aload_n hx hb dX4_meet_159 rfl (lv_at hl 4 rfl) ?_
              refine gf_X4_29 hx hb ht hown hK hw rfl dX4_meet_160 ?_
              refine W.eq (g2 := F0 m 163 ls [.ref (ad 44)]) rfl ?_
              refine lv_iload hx hb dX4_meet_163 (lv_at hl 3 rfl) ?_
              refine lv_iconst (v := (3 : Int32)) hx hb dX4_meet_165 (by decide) ?_
              refine lv_imul hx hb dX4_meet_166 ?_
              refine lv_iload hx hb dX4_meet_167 (lv_at hl 2 rfl) ?_
              refine lv_iadd hx hb dX4_meet_169 ?_
              refine lv_aload_n hx hb dX4_meet_170 rfl (lv_at hl 4 rfl) ?_
              refine gf_X4_32 hx hb ht hown hK hw rfl dX4_meet_171 ?_
              refine W.eq (g2 := F0 m 174 ls [.ref (ad 46), .int ((v12 * (3 : Int32)) + v11), .ref (ad 44)]) rfl ?_
              refine lv_iload hx hb dX4_meet_174 (lv_at hl 1 rfl) ?_
              refine lv_bipush (v := (32 : Int32)) hx hb dX4_meet_176 (by decide) ?_
              refine lv_imul hx hb dX4_meet_178 ?_
              refine lv_iload hx hb dX4_meet_179 (lv_at hl 0 rfl) ?_
              refine lv_iadd hx hb dX4_meet_181 ?_
              refine T_calli hw (va_runV (own := "Leastreader$Meeting") (As := [.int ((r21 * (32 : Int32)) + r27)]) (rest := [.int ((v12 * (3 : Int32)) + v11), .ref (ad 44)]) ⟨hx, hb, hml, hown, ht⟩ (c_X6_at 46 rfl μ39 H.size ((r21 * (32 : Int32)) + r27) h) (cwV 1 ht (G_V q_803 q_399 q_400 q_51 q_401) rfl rfl rfl ⟨rfl, hd_8⟩ ⟨Nat.le_of_ble_eq_true rfl, Nat.le_of_ble_eq_true rfl⟩) ⟨TB.blind, (T_recv hK hw (kd_of rfl (by decide)) (ent_6 rfl) cl_6), TB.pre hK hN hw⟩ rfl rfl hl.1 rfl (lv_room (Nat.le_of_ble_eq_true rfl)) dX4_meet_182 ⟨Nat.le_of_ble_eq_true rfl, Nat.le_of_ble_eq_true rfl⟩) (fun r40 μ41 H locs h hw => ?_)
              obtain ⟨e42, h⟩ := h
              rw [e42] at hw
              refine T_callv hw (va_runV (own := "Leastreader$Meeting") (As := [.int ((v12 * (3 : Int32)) + v11), .int r40]) (rest := []) ⟨hx, hb, hml, hown, ht⟩ (c_X6_put 44 rfl μ39 H.size ((v12 * (3 : Int32)) + v11) r40 h) (cwV 2 ht (G_V q_798 q_395 q_396 q_51 q_397) rfl rfl rfl ⟨rfl, hd_7⟩ ⟨Nat.le_of_ble_eq_true rfl, Nat.le_of_ble_eq_true rfl⟩) ⟨TB.blind, (T_recv hK hw (kd_of rfl (by decide)) (ent_6 rfl) cl_6), TB.pre hK hN hw⟩ rfl rfl hl.1 rfl (lv_room (Nat.le_of_ble_eq_true rfl)) dX4_meet_185 ⟨Nat.le_of_ble_eq_true rfl, Nat.le_of_ble_eq_true rfl⟩) (fun μ43 H locs h hw => ?_)
              refine lv_iinc (v := (v11 + (1 : Int32))) (lv' := [(6, .int (v11 + (1 : Int32))), (8, .int r27), (7, .int r21), (5, .int v12), (0, .ref (ad 35)), (1, .ref (ad k1)), (2, .ref (ad k2)), (3, .int v13), (4, .int v14)]) hx hb dX4_meet_188 hl (k := 2) rfl rfl (by decide) rfl (fun ls hl => ?_)
              refine lv_goto (tgt := 63) hx hb dX4_meet_191 (by decide) ?_
              exact ih9 (v11 + (1 : Int32)) μ43 H locs ls hw (lv_sub hl [0, 3, 4, 5, 6, 7, 8] rfl) h
            have h := h.2 c38
            refine lv_iconst (v := (0 : Int32)) hx hb dX4_meet_145 (by decide) ?_
            exact hret H locs ls 146 _ _ hw h rfl dX4_meet_146
          have h := h.2 c17
          refine lv_iload hx hb dX4_meet_77 (lv_at hl 6 rfl) ?_
          refine lv_if_ne (tgt := 84) hx hb dX4_meet_79 (by decide) (fun c44 => ?_) (fun c44 => ?_)
          · have h := h.1 c44
            refine lv_aload_n hx hb dX4_meet_84 rfl (lv_at hl 3 rfl) ?_
            refine lv_aload_n hx hb dX4_meet_85 rfl (lv_at hl 2 rfl) ?_
            refine gf_X4_14 hx hb ht hown hK hw rfl dX4_meet_86 ?_
            refine W.eq (g2 := F0 m 89 ls [.ref (ad 36), .ref (ad k1)]) rfl ?_
            refine lv_iload hx hb dX4_meet_89 (lv_at hl 1 rfl) ?_
            refine T_calli hw (va_runV (own := "Leastreader$Meeting") (As := [.int v12]) (rest := [.ref (ad k1)]) ⟨hx, hb, hml, hown, ht⟩ (c_X6_at 36 rfl μ15 H.size v12 h) (cwV 1 ht (G_V q_803 q_399 q_400 q_51 q_401) rfl rfl rfl ⟨rfl, hd_8⟩ ⟨Nat.le_of_ble_eq_true rfl, Nat.le_of_ble_eq_true rfl⟩) ⟨TB.blind, (T_recv hK hw (kd_of rfl (by decide)) (ent_6 rfl) cl_6), TB.pre hK hN hw⟩ rfl rfl hl.1 rfl (lv_room (Nat.le_of_ble_eq_true rfl)) dX4_meet_91 ⟨Nat.le_of_ble_eq_true rfl, Nat.le_of_ble_eq_true rfl⟩) (fun r45 μ46 H locs h hw => ?_)
            obtain ⟨e47, h⟩ := h
            rw [e47] at hw
            refine lv_iload hx hb dX4_meet_94 (lv_at hl 0 rfl) ?_
            refine T_calli hw (va_runU (own := "Leastreader$Meeting") (As := [.int r45, .int v11]) (rest := []) ⟨hx, hb, hml, hown, ht⟩ (c_X7_at_5 k1 hk1 μ15 H.size r45 v11 h) (va_cwU (owner := "Leastreader$Table") 2 ht (G_U q_805 q_452 q_453 q_416 q_47 q_417) rfl rfl rfl rfl hd_0 ⟨Nat.le_of_ble_eq_true rfl, Nat.le_of_ble_eq_true rfl⟩) ⟨TB.blind, (T_recv hK hw (kd_of hk1 (by decide)) (ent_5 hk1) cl_5), TB.pre hK hN hw⟩ rfl rfl hl.1 rfl (lv_room (Nat.le_of_ble_eq_true rfl)) dX4_meet_96 ⟨Nat.le_of_ble_eq_true rfl, Nat.le_of_ble_eq_true rfl⟩) (fun r48 μ49 H locs h hw => ?_)
            obtain ⟨e50, h⟩ := h
            rw [e50] at hw
            refine lv_istore (lv' := [(7, .int r48), (6, .int v11), (5, .int v12), (0, .ref (ad 35)), (1, .ref (ad k1)), (2, .ref (ad k2)), (3, .int v13), (4, .int v14)]) hx hb dX4_meet_99 hl (by decide) rfl (fun ls hl => ?_)
            refine lv_aload_n hx hb dX4_meet_101 rfl (lv_at hl 5 rfl) ?_
            refine lv_aload_n hx hb dX4_meet_102 rfl (lv_at hl 3 rfl) ?_
            refine gf_X4_20 hx hb ht hown hK hw rfl dX4_meet_103 ?_
            refine W.eq (g2 := F0 m 106 ls [.ref (ad 38), .ref (ad k2)]) rfl ?_
            refine lv_iload hx hb dX4_meet_106 (lv_at hl 2 rfl) ?_
            refine T_calli hw (va_runV (own := "Leastreader$Meeting") (As := [.int v12]) (rest := [.ref (ad k2)]) ⟨hx, hb, hml, hown, ht⟩ (c_X6_at 38 rfl μ15 H.size v12 h) (cwV 1 ht (G_V q_803 q_399 q_400 q_51 q_401) rfl rfl rfl ⟨rfl, hd_8⟩ ⟨Nat.le_of_ble_eq_true rfl, Nat.le_of_ble_eq_true rfl⟩) ⟨TB.blind, (T_recv hK hw (kd_of rfl (by decide)) (ent_6 rfl) cl_6), TB.pre hK hN hw⟩ rfl rfl hl.1 rfl (lv_room (Nat.le_of_ble_eq_true rfl)) dX4_meet_108 ⟨Nat.le_of_ble_eq_true rfl, Nat.le_of_ble_eq_true rfl⟩) (fun r51 μ52 H locs h hw => ?_)
            obtain ⟨e53, h⟩ := h
            rw [e53] at hw
            refine lv_iload hx hb dX4_meet_111 (lv_at hl 1 rfl) ?_
            refine T_calli hw (va_runU (own := "Leastreader$Meeting") (As := [.int r51, .int v11]) (rest := []) ⟨hx, hb, hml, hown, ht⟩ (c_X7_at_5 k2 hk2 μ15 H.size r51 v11 h) (va_cwU (owner := "Leastreader$Table") 2 ht (G_U q_805 q_452 q_453 q_416 q_47 q_417) rfl rfl rfl rfl hd_0 ⟨Nat.le_of_ble_eq_true rfl, Nat.le_of_ble_eq_true rfl⟩) ⟨TB.blind, (T_recv hK hw (kd_of hk2 (by decide)) (ent_5 hk2) cl_5), TB.pre hK hN hw⟩ rfl rfl hl.1 rfl (lv_room (Nat.le_of_ble_eq_true rfl)) dX4_meet_113 ⟨Nat.le_of_ble_eq_true rfl, Nat.le_of_ble_eq_true rfl⟩) (fun r54 μ55 H locs h hw => ?_)
            obtain ⟨e56, h⟩ := h
            rw [e56] at hw
            refine lv_istore (lv' := [(8, .int r54), (7, .int r48), (6, .int v11), (5, .int v12), (0, .ref (ad 35)), (1, .ref (ad k1)), (2, .ref (ad k2)), (3, .int v13), (4, .int v14)]) hx hb dX4_meet_116 hl (by decide) rfl (fun ls hl => ?_)
            refine lv_aload_n hx hb dX4_meet_118 rfl (lv_at hl 4 rfl) ?_
            refine gf_X4_32 hx hb ht hown hK hw rfl dX4_meet_119 ?_
            refine W.eq (g2 := F0 m 122 ls [.ref (ad 46)]) rfl ?_
            refine lv_iload hx hb dX4_meet_122 (lv_at hl 1 rfl) ?_
            refine lv_bipush (v := (32 : Int32)) hx hb dX4_meet_124 (by decide) ?_
            refine lv_imul hx hb dX4_meet_126 ?_
            refine lv_iload hx hb dX4_meet_127 (lv_at hl 0 rfl) ?_
            refine lv_iadd hx hb dX4_meet_129 ?_
            refine T_calli hw (va_runV (own := "Leastreader$Meeting") (As := [.int ((r48 * (32 : Int32)) + r54)]) (rest := []) ⟨hx, hb, hml, hown, ht⟩ (c_X6_at 46 rfl μ15 H.size ((r48 * (32 : Int32)) + r54) h) (cwV 1 ht (G_V q_803 q_399 q_400 q_51 q_401) rfl rfl rfl ⟨rfl, hd_8⟩ ⟨Nat.le_of_ble_eq_true rfl, Nat.le_of_ble_eq_true rfl⟩) ⟨TB.blind, (T_recv hK hw (kd_of rfl (by decide)) (ent_6 rfl) cl_6), TB.pre hK hN hw⟩ rfl rfl hl.1 rfl (lv_room (Nat.le_of_ble_eq_true rfl)) dX4_meet_130 ⟨Nat.le_of_ble_eq_true rfl, Nat.le_of_ble_eq_true rfl⟩) (fun r57 μ58 H locs h hw => ?_)
            obtain ⟨e59, h⟩ := h
            rw [e59] at hw
            refine lv_iconst (v := (-1 : Int32)) hx hb dX4_meet_133 (by decide) ?_
            refine lv_icmp_ne (tgt := 159) hx hb dX4_meet_134 (by decide) (fun c60 => ?_) (fun c60 => ?_)
            · have h := h.1 c60
              refine lv_aload_n hx hb dX4_meet_159 rfl (lv_at hl 4 rfl) ?_
              refine gf_X4_29 hx hb ht hown hK hw rfl dX4_meet_160 ?_
              refine W.eq (g2 := F0 m 163 ls [.ref (ad 44)]) rfl ?_
              refine lv_iload hx hb dX4_meet_163 (lv_at hl 3 rfl) ?_
              refine lv_iconst (v := (3 : Int32)) hx hb dX4_meet_165 (by decide) ?_
              refine lv_imul hx hb dX4_meet_166 ?_
              refine lv_iload hx hb dX4_meet_167 (lv_at hl 2 rfl) ?_
              refine lv_iadd hx hb dX4_meet_169 ?_
              refine lv_aload_n hx hb dX4_meet_170 rfl (lv_at hl 4 rfl) ?_
              refine gf_X4_32 hx hb ht hown hK hw rfl dX4_meet_171 ?_
              refine W.eq (g2 := F0 m 174 ls [.ref (ad 46), .int ((v12 * (3 : Int32)) + v11), .ref (ad 44)]) rfl ?_
              refine lv_iload hx hb dX4_meet_174 (lv_at hl 1 rfl) ?_
              refine lv_bipush (v := (32 : Int32)) hx hb dX4_meet_176 (by decide) ?_
              refine lv_imul hx hb dX4_meet_178 ?_
              refine lv_iload hx hb dX4_meet_179 (lv_at hl 0 rfl) ?_
              refine lv_iadd hx hb dX4_meet_181 ?_
              refine T_calli hw (va_runV (own := "Leastreader$Meeting") (As := [.int ((r48 * (32 : Int32)) + r54)]) (rest := [.int ((v12 * (3 : Int32)) + v11), .ref (ad 44)]) ⟨hx, hb, hml, hown, ht⟩ (c_X6_at 46 rfl μ15 H.size ((r48 * (32 : Int32)) + r54) h) (cwV 1 ht (G_V q_803 q_399 q_400 q_51 q_401) rfl rfl rfl ⟨rfl, hd_8⟩ ⟨Nat.le_of_ble_eq_true rfl, Nat.le_of_ble_eq_true rfl⟩) ⟨TB.blind, (T_recv hK hw (kd_of rfl (by decide)) (ent_6 rfl) cl_6), TB.pre hK hN hw⟩ rfl rfl hl.1 rfl (lv_room (Nat.le_of_ble_eq_true rfl)) dX4_meet_182 ⟨Nat.le_of_ble_eq_true rfl, Nat.le_of_ble_eq_true rfl⟩) (fun r61 μ62 H locs h hw => ?_)
              obtain ⟨e63, h⟩ := h
              rw [e63] at hw
              refine T_callv hw (va_runV (own := "Leastreader$Meeting") (As := [.int ((v12 * (3 : Int32)) + v11), .int r61]) (rest := []) ⟨hx, hb, hml, hown, ht⟩ (c_X6_put 44 rfl μ15 H.size ((v12 * (3 : Int32)) + v11) r61 h) (cwV 2 ht (G_V q_798 q_395 q_396 q_51 q_397) rfl rfl rfl ⟨rfl, hd_7⟩ ⟨Nat.le_of_ble_eq_true rfl, Nat.le_of_ble_eq_true rfl⟩) ⟨TB.blind, (T_recv hK hw (kd_of rfl (by decide)) (ent_6 rfl) cl_6), TB.pre hK hN hw⟩ rfl rfl hl.1 rfl (lv_room (Nat.le_of_ble_eq_true rfl)) dX4_meet_185 ⟨Nat.le_of_ble_eq_true rfl, Nat.le_of_ble_eq_true rfl⟩) (fun μ64 H locs h hw => ?_)
              refine lv_iinc (v := (v11 + (1 : Int32))) (lv' := [(6, .int (v11 + (1 : Int32))), (8, .int r54), (7, .int r48), (5, .int v12), (0, .ref (ad 35)), (1, .ref (ad k1)), (2, .ref (ad k2)), (3, .int v13), (4, .int v14)]) hx hb dX4_meet_188 hl (k := 2) rfl rfl (by decide) rfl (fun ls hl => ?_)
              refine lv_goto (tgt := 63) hx hb dX4_meet_191 (by decide) ?_
              exact ih9 (v11 + (1 : Int32)) μ64 H locs ls hw (lv_sub hl [0, 3, 4, 5, 6, 7, 8] rfl) h
            have h := h.2 c60
            refine lv_aload_n hx hb dX4_meet_137 rfl (lv_at hl 4 rfl) ?_
            refine gf_X4_50 hx hb ht hown hK hw rfl dX4_meet_138 ?_
            refine lv_iload_n hx hb dX4_meet_141 rfl (lv_at hl 7 rfl) ?_
            refine lv_icmp_lt (tgt := 147) hx hb dX4_meet_142 (by decide) (fun c65 => ?_) (fun c65 => ?_)
            · have h := h.1 c65
              refine lv_aload_n hx hb dX4_meet_147 rfl (lv_at hl 4 rfl) ?_
              refine lv_iload hx hb dX4_meet_148 (lv_at hl 1 rfl) ?_
              refine lv_iload hx hb dX4_meet_150 (lv_at hl 0 rfl) ?_
              refine lv_iload hx hb dX4_meet_152 (lv_at hl 3 rfl) ?_
              refine lv_iload hx hb dX4_meet_154 (lv_at hl 2 rfl) ?_
              refine T_callv hw (va_runV (own := "Leastreader$Meeting") (As := [.int r48, .int r54, .int v12, .int v11]) (rest := []) ⟨hx, hb, hml, hown, ht⟩ (c_X4_add μ15 H.size r48 r54 v12 v11 h) (cwV 4 ht (G_V q_794 q_796 q_20 q_54 q_797) rfl rfl rfl ⟨rfl, hd_14⟩ ⟨Nat.le_of_ble_eq_true rfl, Nat.le_of_ble_eq_true rfl⟩) ⟨TB.blind, (T_recv hK hw (kd_of rfl (by decide)) (ent_4 rfl) cl_4), TB.pre hK hN hw⟩ rfl rfl hl.1 rfl (lv_room (Nat.le_of_ble_eq_true rfl)) dX4_meet_156 ⟨Nat.le_of_ble_eq_true rfl, Nat.le_of_ble_eq_true rfl⟩) (fun μ66 H locs h hw => ?_)
              refine lv_aload_n hx hb dX4_meet_159 rfl (lv_at hl 4 rfl) ?_
              refine gf_X4_29 hx hb ht hown hK hw rfl dX4_meet_160 ?_
              refine W.eq (g2 := F0 m 163 ls [.ref (ad 44)]) rfl ?_
              refine lv_iload hx hb dX4_meet_163 (lv_at hl 3 rfl) ?_
              refine lv_iconst (v := (3 : Int32)) hx hb dX4_meet_165 (by decide) ?_
              refine lv_imul hx hb dX4_meet_166 ?_
              refine lv_iload hx hb dX4_meet_167 (lv_at hl 2 rfl) ?_
              refine lv_iadd hx hb dX4_meet_169 ?_
              refine lv_aload_n hx hb dX4_meet_170 rfl (lv_at hl 4 rfl) ?_
              refine gf_X4_32 hx hb ht hown hK hw rfl dX4_meet_171 ?_
              refine W.eq (g2 := F0 m 174 ls [.ref (ad 46), .int ((v12 * (3 : Int32)) + v11), .ref (ad 44)]) rfl ?_
              refine lv_iload hx hb dX4_meet_174 (lv_at hl 1 rfl) ?_
              refine lv_bipush (v := (32 : Int32)) hx hb dX4_meet_176 (by decide) ?_
              refine lv_imul hx hb dX4_meet_178 ?_
              refine lv_iload hx hb dX4_meet_179 (lv_at hl 0 rfl) ?_
              refine lv_iadd hx hb dX4_meet_181 ?_
              refine T_calli hw (va_runV (own := "Leastreader$Meeting") (As := [.int ((r48 * (32 : Int32)) + r54)]) (rest := [.int ((v12 * (3 : Int32)) + v11), .ref (ad 44)]) ⟨hx, hb, hml, hown, ht⟩ (c_X6_at 46 rfl μ66 H.size ((r48 * (32 : Int32)) + r54) h) (cwV 1 ht (G_V q_803 q_399 q_400 q_51 q_401) rfl rfl rfl ⟨rfl, hd_8⟩ ⟨Nat.le_of_ble_eq_true rfl, Nat.le_of_ble_eq_true rfl⟩) ⟨TB.blind, (T_recv hK hw (kd_of rfl (by decide)) (ent_6 rfl) cl_6), TB.pre hK hN hw⟩ rfl rfl hl.1 rfl (lv_room (Nat.le_of_ble_eq_true rfl)) dX4_meet_182 ⟨Nat.le_of_ble_eq_true rfl, Nat.le_of_ble_eq_true rfl⟩) (fun r67 μ68 H locs h hw => ?_)
              obtain ⟨e69, h⟩ := h
              rw [e69] at hw
              refine T_callv hw (va_runV (own := "Leastreader$Meeting") (As := [.int ((v12 * (3 : Int32)) + v11), .int r67]) (rest := []) ⟨hx, hb, hml, hown, ht⟩ (c_X6_put 44 rfl μ66 H.size ((v12 * (3 : Int32)) + v11) r67 h) (cwV 2 ht (G_V q_798 q_395 q_396 q_51 q_397) rfl rfl rfl ⟨rfl, hd_7⟩ ⟨Nat.le_of_ble_eq_true rfl, Nat.le_of_ble_eq_true rfl⟩) ⟨TB.blind, (T_recv hK hw (kd_of rfl (by decide)) (ent_6 rfl) cl_6), TB.pre hK hN hw⟩ rfl rfl hl.1 rfl (lv_room (Nat.le_of_ble_eq_true rfl)) dX4_meet_185 ⟨Nat.le_of_ble_eq_true rfl, Nat.le_of_ble_eq_true rfl⟩) (fun μ70 H locs h hw => ?_)
              refine lv_iinc (v := (v11 + (1 : Int32))) (lv' := [(6, .int (v11 + (1 : Int32))), (8, .int r54), (7, .int r48), (5, .int v12), (0, .ref (ad 35)), (1, .ref (ad k1)), (2, .ref (ad k2)), (3, .int v13), (4, .int v14)]) hx hb dX4_meet_188 hl (k := 2) rfl rfl (by decide) rfl (fun ls hl => ?_)
              refine lv_goto (tgt := 63) hx hb dX4_meet_191 (by decide) ?_
              exact ih9 (v11 + (1 : Int32)) μ70 H locs ls hw (lv_sub hl [0, 3, 4, 5, 6, 7, 8] rfl) h
            have h := h.2 c65
            refine lv_iconst (v := (0 : Int32)) hx hb dX4_meet_145 (by decide) ?_
            exact hret H locs ls 146 _ _ hw h rfl dX4_meet_146
          have h := h.2 c44
          refine lv_iconst (v := (1 : Int32)) hx hb dX4_meet_82 (by decide) ?_
          exact hret H locs ls 83 _ _ hw h rfl dX4_meet_83
      refine L9 v4 v5 v6 _ ?_ n71 (0 : Int32) μ7 H locs ls hw (lv_sub hl [0, 1, 2, 3, 4, 5, 6] rfl) h
      intro μ72 H locs ls hw hl h
      refine lv_iinc (v := (v4 + (1 : Int32))) (lv' := [(5, .int (v4 + (1 : Int32))), (0, .ref (ad 35)), (1, .ref (ad k1)), (2, .ref (ad k2)), (3, .int v5), (4, .int v6)]) hx hb dX4_meet_194 hl (k := 0) rfl rfl (by decide) rfl (fun ls hl => ?_)
      refine lv_goto (tgt := 45) hx hb dX4_meet_197 (by decide) ?_
      exact ih2 (v4 + (1 : Int32)) μ72 H locs ls hw (lv_sub hl [0, 1, 2, 3, 4, 5] rfl) h
  exact L2 a3 a4 n73 (0 : Int32) μ2 H locs ls hw (lv_sub hl [0, 1, 2, 3, 4, 5] rfl) h
def wp_X9_meetPairs (k1 : Nat) (k2 : Nat) (μ : TMem) (a3 : Int32) (a4 : Int32) (Q : Int32 → TMem → Prop) : Prop :=
  wp_X3_makeOneWay k1 51 μ (fun (r2 : Int32) (μ1 : TMem) => (r2 = 0 → (Q (0 : Int32) μ1)) ∧ (¬ r2 = 0 → (wp_X3_makeOneWay k2 53 μ1 (fun (r5 : Int32) (μ4 : TMem) => (r5 = 0 → (Q (0 : Int32) μ4)) ∧ (¬ r5 = 0 → (wp_X4_meet 51 53 μ4 a3 a4 (fun (r8 : Int32) (μ7 : TMem) => (r8 = 0 → (Q (0 : Int32) μ7)) ∧ (¬ r8 = 0 → (Q (1 : Int32) μ7)))))))))
set_option maxHeartbeats 4000000 in
set_option maxRecDepth 100000 in
theorem c_X9_meetPairs {l : Launch} {D : va_G} {ad : Nat → Nat} {cI cM : ClassId} (k1 : Nat) (hk1 : kd k1 = 2) (k2 : Nat) (hk2 : kd k2 = 2) (μ : TMem) (sz : Nat) (a3 : Int32) (a4 : Int32) {Q : Int32 → TMem → Prop} (h : wp_X9_meetPairs k1 k2 μ a3 a4 Q) : TMi l yX9_meetPairs (.code yX9_meetPairs cX9_meetPairs 5 (Option.some Jvm.ClassFile.FieldType.boolean)) 4 [.ref (ad 0), .ref (ad k1), .ref (ad k2), .int a3, .int a4] D ad cI cM sz μ Q := by
  refine T_meti (by decide +kernel) (Nat.le_of_ble_eq_true rfl) ?_
  intro p e s m below meth c Z ls hx hb hml hown ht hN hK hw hret hl
  have hl : lv_has ls 5 [(0, .ref (ad 0)), (1, .ref (ad k1)), (2, .ref (ad k2)), (3, .int a3), (4, .int a4)] := hl
  generalize s.heap = H at hw ⊢
  generalize ([] : List Loc) = locs at hw ⊢
  change wp_X3_makeOneWay k1 51 μ (fun (r2 : Int32) (μ1 : TMem) => (r2 = 0 → (Q (0 : Int32) μ1)) ∧ (¬ r2 = 0 → (wp_X3_makeOneWay k2 53 μ1 (fun (r5 : Int32) (μ4 : TMem) => (r5 = 0 → (Q (0 : Int32) μ4)) ∧ (¬ r5 = 0 → (wp_X4_meet 51 53 μ4 a3 a4 (fun (r8 : Int32) (μ7 : TMem) => (r8 = 0 → (Q (0 : Int32) μ7)) ∧ (¬ r8 = 0 → (Q (1 : Int32) μ7))))))))) at h
  refine lv_aload_n hx hb dX9_meetPairs_0 rfl (lv_at hl 0 rfl) ?_
  refine gf_X9_35 hx hb ht hown hK hw rfl dX9_meetPairs_1 ?_
  refine lv_aload_n hx hb dX9_meetPairs_4 rfl (lv_at hl 1 rfl) ?_
  refine lv_aload_n hx hb dX9_meetPairs_5 rfl (lv_at hl 0 rfl) ?_
  refine gf_X9_56 hx hb ht hown hK hw rfl dX9_meetPairs_6 ?_
  refine T_calli hw (va_runV (own := "Leastreader") (As := [.ref (ad k1), .ref (ad 51)]) (rest := []) ⟨hx, hb, hml, hown, ht⟩ (c_X3_makeOneWay k1 hk1 51 rfl μ H.size h) (cwV 2 ht (G_V q_788 q_391 q_392 q_50 q_393) rfl rfl rfl ⟨rfl, hd_15⟩ ⟨Nat.le_of_ble_eq_true rfl, Nat.le_of_ble_eq_true rfl⟩) ⟨TB.blind, (T_recv hK hw (kd_of rfl (by decide)) (ent_3 rfl) cl_3), TB.pre hK hN hw⟩ rfl rfl hl.1 rfl (lv_room (Nat.le_of_ble_eq_true rfl)) dX9_meetPairs_9 ⟨Nat.le_of_ble_eq_true rfl, Nat.le_of_ble_eq_true rfl⟩) (fun r2 μ1 H locs h hw => ?_)
  refine lv_if_eq (tgt := 55) hx hb dX9_meetPairs_12 (by decide) (fun c3 => ?_) (fun c3 => ?_)
  · have h := h.1 c3
    refine lv_iconst (v := (0 : Int32)) hx hb dX9_meetPairs_55 (by decide) ?_
    exact hret H locs ls 56 _ _ hw h rfl dX9_meetPairs_56
  have h := h.2 c3
  refine lv_aload_n hx hb dX9_meetPairs_15 rfl (lv_at hl 0 rfl) ?_
  refine gf_X9_35 hx hb ht hown hK hw rfl dX9_meetPairs_16 ?_
  refine lv_aload_n hx hb dX9_meetPairs_19 rfl (lv_at hl 2 rfl) ?_
  refine lv_aload_n hx hb dX9_meetPairs_20 rfl (lv_at hl 0 rfl) ?_
  refine gf_X9_60 hx hb ht hown hK hw rfl dX9_meetPairs_21 ?_
  refine T_calli hw (va_runV (own := "Leastreader") (As := [.ref (ad k2), .ref (ad 53)]) (rest := []) ⟨hx, hb, hml, hown, ht⟩ (c_X3_makeOneWay k2 hk2 53 rfl μ1 H.size h) (cwV 2 ht (G_V q_788 q_391 q_392 q_50 q_393) rfl rfl rfl ⟨rfl, hd_15⟩ ⟨Nat.le_of_ble_eq_true rfl, Nat.le_of_ble_eq_true rfl⟩) ⟨TB.blind, (T_recv hK hw (kd_of rfl (by decide)) (ent_3 rfl) cl_3), TB.pre hK hN hw⟩ rfl rfl hl.1 rfl (lv_room (Nat.le_of_ble_eq_true rfl)) dX9_meetPairs_24 ⟨Nat.le_of_ble_eq_true rfl, Nat.le_of_ble_eq_true rfl⟩) (fun r5 μ4 H locs h hw => ?_)
  refine lv_if_eq (tgt := 55) hx hb dX9_meetPairs_27 (by decide) (fun c6 => ?_) (fun c6 => ?_)
  · have h := h.1 c6
    refine lv_iconst (v := (0 : Int32)) hx hb dX9_meetPairs_55 (by decide) ?_
    exact hret H locs ls 56 _ _ hw h rfl dX9_meetPairs_56
  have h := h.2 c6
  refine lv_aload_n hx hb dX9_meetPairs_30 rfl (lv_at hl 0 rfl) ?_
  refine gf_X9_42 hx hb ht hown hK hw rfl dX9_meetPairs_31 ?_
  refine lv_aload_n hx hb dX9_meetPairs_34 rfl (lv_at hl 0 rfl) ?_
  refine gf_X9_56 hx hb ht hown hK hw rfl dX9_meetPairs_35 ?_
  refine lv_aload_n hx hb dX9_meetPairs_38 rfl (lv_at hl 0 rfl) ?_
  refine gf_X9_60 hx hb ht hown hK hw rfl dX9_meetPairs_39 ?_
  refine lv_iload_n hx hb dX9_meetPairs_42 rfl (lv_at hl 3 rfl) ?_
  refine lv_iload hx hb dX9_meetPairs_43 (lv_at hl 4 rfl) ?_
  refine T_calli hw (va_runV (own := "Leastreader") (As := [.ref (ad 51), .ref (ad 53), .int a3, .int a4]) (rest := []) ⟨hx, hb, hml, hown, ht⟩ (c_X4_meet 51 rfl 53 rfl μ4 H.size a3 a4 h) (cwV 4 ht (G_V q_789 q_790 q_791 q_54 q_792) rfl rfl rfl ⟨rfl, hd_16⟩ ⟨Nat.le_of_ble_eq_true rfl, Nat.le_of_ble_eq_true rfl⟩) ⟨TB.blind, (T_recv hK hw (kd_of rfl (by decide)) (ent_4 rfl) cl_4), TB.pre hK hN hw⟩ rfl rfl hl.1 rfl (lv_room (Nat.le_of_ble_eq_true rfl)) dX9_meetPairs_45 ⟨Nat.le_of_ble_eq_true rfl, Nat.le_of_ble_eq_true rfl⟩) (fun r8 μ7 H locs h hw => ?_)
  refine lv_if_eq (tgt := 55) hx hb dX9_meetPairs_48 (by decide) (fun c9 => ?_) (fun c9 => ?_)
  · have h := h.1 c9
    refine lv_iconst (v := (0 : Int32)) hx hb dX9_meetPairs_55 (by decide) ?_
    exact hret H locs ls 56 _ _ hw h rfl dX9_meetPairs_56
  have h := h.2 c9
  refine lv_iconst (v := (1 : Int32)) hx hb dX9_meetPairs_51 (by decide) ?_
  refine lv_goto (tgt := 56) hx hb dX9_meetPairs_52 (by decide) ?_
  exact hret H locs ls 56 _ _ hw h rfl dX9_meetPairs_56
def wp_X4_target (μ : TMem) (a1 : Int32) (a2 : Int32) (Q : Int32 → Prop) : Prop :=
  wp_X6_at 44 μ ((a1 * (3 : Int32)) + a2) (fun (r1 : Int32) => Q r1)
set_option maxHeartbeats 4000000 in
set_option maxRecDepth 100000 in
theorem c_X4_target {l : Launch} {D : va_G} {ad : Nat → Nat} {cI cM : ClassId}  (μ : TMem) (sz : Nat) (a1 : Int32) (a2 : Int32) {Q : Int32 → Prop} (h : wp_X4_target μ a1 a2 Q) : TMi l yX4_target (.code yX4_target cX4_target 3 (Option.some Jvm.ClassFile.FieldType.int)) 1 [.ref (ad 35), .int a1, .int a2] D ad cI cM sz μ (fun r μ1 => μ1 = μ ∧ Q r) := by
  refine T_meti (by decide +kernel) (Nat.le_of_ble_eq_true rfl) ?_
  intro p e s m below meth c Z ls hx hb hml hown ht hN hK hw hret hl
  have hl : lv_has ls 3 [(0, .ref (ad 35)), (1, .int a1), (2, .int a2)] := hl
  generalize s.heap = H at hw ⊢
  generalize ([] : List Loc) = locs at hw ⊢
  change wp_X6_at 44 μ ((a1 * (3 : Int32)) + a2) (fun (r1 : Int32) => Q r1) at h
  refine lv_aload_n hx hb dX4_target_0 rfl (lv_at hl 0 rfl) ?_
  refine gf_X4_29 hx hb ht hown hK hw rfl dX4_target_1 ?_
  refine W.eq (g2 := F0 m 4 ls [.ref (ad 44)]) rfl ?_
  refine lv_iload_n hx hb dX4_target_4 rfl (lv_at hl 1 rfl) ?_
  refine lv_iconst (v := (3 : Int32)) hx hb dX4_target_5 (by decide) ?_
  refine lv_imul hx hb dX4_target_6 ?_
  refine lv_iload_n hx hb dX4_target_7 rfl (lv_at hl 2 rfl) ?_
  refine lv_iadd hx hb dX4_target_8 ?_
  refine T_calli hw (va_runV (own := "Leastreader$Meeting") (As := [.int ((a1 * (3 : Int32)) + a2)]) (rest := []) ⟨hx, hb, hml, hown, ht⟩ (c_X6_at 44 rfl μ H.size ((a1 * (3 : Int32)) + a2) h) (cwV 1 ht (G_V q_803 q_399 q_400 q_51 q_401) rfl rfl rfl ⟨rfl, hd_8⟩ ⟨Nat.le_of_ble_eq_true rfl, Nat.le_of_ble_eq_true rfl⟩) ⟨TB.blind, (T_recv hK hw (kd_of rfl (by decide)) (ent_6 rfl) cl_6), TB.pre hK hN hw⟩ rfl rfl hl.1 rfl (lv_room (Nat.le_of_ble_eq_true rfl)) dX4_target_9 ⟨Nat.le_of_ble_eq_true rfl, Nat.le_of_ble_eq_true rfl⟩) (fun r1 μ2 H locs h hw => ?_)
  obtain ⟨e3, h⟩ := h
  rw [e3] at hw
  exact hret H locs ls 12 _ _ hw ⟨rfl, h⟩ rfl dX4_target_12
end
/-! part 23.m4 -/
section
def wpl_X5_becomePairs_44 (k0 : Nat) (v12 : Int32) (v13 : Int32) (K70 : TMem → Prop) : Nat → Int32 → TMem → Prop
  | 0, _, _ => False
  | n + 1, v11, μ14 =>
    ((3 : Int32) ≤ v11 → (K70 μ14)) ∧ (¬ (3 : Int32) ≤ v11 → (wp_X4_target μ14 v12 v11 (fun (r16 : Int32) => wp_X7_put k0 μ14 v12 v11 r16 (fun (μ19 : TMem) => wpl_X5_becomePairs_44 k0 v12 v13 K70 n (v11 + (1 : Int32)) μ19))))
def wpl_X5_becomePairs_15 (k0 : Nat) (v3 : Int32) (Q : TMem → Prop) : Nat → Int32 → TMem → Prop
  | 0, _, _ => False
  | n + 1, v2, μ4 =>
    ((μ4 k0 1) ≤ v2 → (Q μ4)) ∧ (¬ (μ4 k0 1) ≤ v2 → (wp_X4_isGoal μ4 v2 v3 (fun (r6 : Int32) => wp_X9_withOrWithout (μ4 k0 2) v2 r6 (fun (r9 : Int32) => ∃ n9x, wpl_X5_becomePairs_44 k0 v2 v3 (fun (μ21 : TMem) => wpl_X5_becomePairs_15 k0 v3 Q n (v2 + (1 : Int32)) μ21) n9x (0 : Int32) (tms μ4 k0 2 r9)))))
def wp_X5_becomePairs (k0 : Nat) (μ : TMem) (a2 : Int32) (Q : TMem → Prop) : Prop :=
  ∃ n0x, wpl_X5_becomePairs_15 k0 a2 Q n0x (0 : Int32) (tms (tms μ k0 1 (μ 35 8)) k0 2 (0 : Int32))
set_option maxHeartbeats 4000000 in
set_option maxRecDepth 100000 in
theorem c_X5_becomePairs {l : Launch} {D : va_G} {ad : Nat → Nat} {cI cM : ClassId} (k0 : Nat) (hk0 : kd k0 = 5) (μ : TMem) (sz : Nat) (a2 : Int32) {Q : TMem → Prop} (h : wp_X5_becomePairs k0 μ a2 Q) : TMv l yX5_becomePairs (.code yX5_becomePairs cX5_becomePairs 5 (Option.none : Option Jvm.ClassFile.FieldType)) 2 [.ref (ad k0), .ref (ad 35), .int a2] D ad cI cM sz μ Q := by
  refine T_metv (by decide +kernel) (Nat.le_of_ble_eq_true rfl) ?_
  intro p e s m below meth c Z ls hx hb hml hown ht hN hK hw hret hl
  have hl : lv_has ls 5 [(0, .ref (ad k0)), (1, .ref (ad 35)), (2, .int a2)] := hl
  generalize s.heap = H at hw ⊢
  generalize ([] : List Loc) = locs at hw ⊢
  change ∃ n0x, wpl_X5_becomePairs_15 k0 a2 Q n0x (0 : Int32) (tms (tms μ k0 1 (μ 35 8)) k0 2 (0 : Int32)) at h
  refine lv_aload_n hx hb dX5_becomePairs_0 rfl (lv_at hl 0 rfl) ?_
  refine lv_aload_n hx hb dX5_becomePairs_1 rfl (lv_at hl 1 rfl) ?_
  refine gf_X5_23 hx hb ht hN hown hK hw rfl dX5_becomePairs_2 ?_
  refine pgf_X5_28 hx hb ht hown hK hw hk0 dX5_becomePairs_5 (fun H locs hw => ?_)
  refine lv_aload_n hx hb dX5_becomePairs_8 rfl (lv_at hl 0 rfl) ?_
  refine lv_iconst (v := (0 : Int32)) hx hb dX5_becomePairs_9 (by decide) ?_
  refine pgf_X5_9 hx hb ht hown hK hw hk0 dX5_becomePairs_10 (fun H locs hw => ?_)
  refine lv_iconst (v := (0 : Int32)) hx hb dX5_becomePairs_13 (by decide) ?_
  refine lv_istore_n (lv' := [(3, .int (0 : Int32)), (0, .ref (ad k0)), (1, .ref (ad 35)), (2, .int a2)]) hx hb dX5_becomePairs_14 rfl hl (by decide) rfl (fun ls hl => ?_)
  obtain ⟨n22, h⟩ := h
  have L0 : ∀ (v3 : Int32), ∀ (n : Nat) (v2 : Int32) (μ4 : TMem) (H : Heap) (locs : List Loc) (ls : Array Slot), TW D ad cI cM s μ4 H locs → lv_has ls 5 [(3, .int v2), (0, .ref (ad k0)), (1, .ref (ad 35)), (2, .int v3)] → wpl_X5_becomePairs_15 k0 v3 Q n v2 μ4 → W p l e (RM 2) s m #[.ref (ad k0), .ref (ad 35), .int a2] below meth c H locs 0 0 Z (F0 m 15 ls []) := by
    intro v3
    intro n
    induction n with
    | zero => intro v2 μ4 H locs ls hw hl h; exact False.elim h
    | succ n ih0 =>
      intro v2 μ4 H locs ls hw hl h
      change ((μ4 k0 1) ≤ v2 → (Q μ4)) ∧ (¬ (μ4 k0 1) ≤ v2 → (wp_X4_isGoal μ4 v2 v3 (fun (r6 : Int32) => wp_X9_withOrWithout (μ4 k0 2) v2 r6 (fun (r9 : Int32) => ∃ n9x, wpl_X5_becomePairs_44 k0 v2 v3 (fun (μ21 : TMem) => wpl_X5_becomePairs_15 k0 v3 Q n (v2 + (1 : Int32)) μ21) n9x (0 : Int32) (tms μ4 k0 2 r9))))) at h
      refine lv_iload_n hx hb dX5_becomePairs_15 rfl (lv_at hl 0 rfl) ?_
      refine lv_aload_n hx hb dX5_becomePairs_16 rfl (lv_at hl 1 rfl) ?_
      refine gf_X5_28 hx hb ht hown hK hw hk0 dX5_becomePairs_17 ?_
      refine lv_icmp_ge (tgt := 76) hx hb dX5_becomePairs_20 (by decide) (fun c5 => ?_) (fun c5 => ?_)
      · have h := h.1 c5
        exact hret H locs ls 76 _ hw h dX5_becomePairs_76
      have h := h.2 c5
      refine lv_aload_n hx hb dX5_becomePairs_23 rfl (lv_at hl 1 rfl) ?_
      refine lv_aload_n hx hb dX5_becomePairs_24 rfl (lv_at hl 1 rfl) ?_
      refine gf_X5_9 hx hb ht hown hK hw hk0 dX5_becomePairs_25 ?_
      refine lv_iload_n hx hb dX5_becomePairs_28 rfl (lv_at hl 0 rfl) ?_
      refine lv_aload_n hx hb dX5_becomePairs_29 rfl (lv_at hl 2 rfl) ?_
      refine lv_iload_n hx hb dX5_becomePairs_30 rfl (lv_at hl 0 rfl) ?_
      refine lv_iload_n hx hb dX5_becomePairs_31 rfl (lv_at hl 3 rfl) ?_
      refine T_calli hw (va_runV (own := "Leastreader$Plain") (As := [.int v2, .int v3]) (rest := [.int v2, .int (μ4 k0 2), .ref (ad k0)]) ⟨hx, hb, hml, hown, ht⟩ (c_X4_isGoal μ4 H.size v2 v3 h) (cwV 2 ht (G_V q_810 q_800 q_801 q_54 q_802) rfl rfl rfl ⟨rfl, hd_12⟩ ⟨Nat.le_of_ble_eq_true rfl, Nat.le_of_ble_eq_true rfl⟩) ⟨TB.blind, (T_recv hK hw (kd_of rfl (by decide)) (ent_4 rfl) cl_4), TB.pre hK hN hw⟩ rfl rfl hl.1 rfl (lv_room (Nat.le_of_ble_eq_true rfl)) dX5_becomePairs_32 ⟨Nat.le_of_ble_eq_true rfl, Nat.le_of_ble_eq_true rfl⟩) (fun r6 μ7 H locs h hw => ?_)
      obtain ⟨e8, h⟩ := h
      rw [e8] at hw
      refine P_calli (va_runSN (own := "Leastreader$Plain") (As := [.int (μ4 k0 2), .int v2, .int r6]) (rest := [.ref (ad k0)]) ⟨hx, hb, hml, hown, ht⟩ (c_X9_withOrWithout (μ4 k0 2) v2 r6 h) ⟨va_cnB 3 ht (G_ws q_404) rfl rfl rfl (nw_811 hN) (ht _ q_46) hd_9 ⟨Nat.le_of_ble_eq_true rfl, Nat.le_of_ble_eq_true rfl⟩, ht _ q_403, trivial⟩ ⟨PM_blind, PM_pre⟩ rfl rfl hl.1 rfl (lv_room (Nat.le_of_ble_eq_true rfl)) dX5_becomePairs_35 ⟨Nat.le_of_ble_eq_true rfl, Nat.le_of_ble_eq_true rfl⟩) (fun r9 h => ?_)
      refine pgf_X5_9 hx hb ht hown hK hw hk0 dX5_becomePairs_38 (fun H locs hw => ?_)
      refine lv_iconst (v := (0 : Int32)) hx hb dX5_becomePairs_41 (by decide) ?_
      refine lv_istore (lv' := [(4, .int (0 : Int32)), (3, .int v2), (0, .ref (ad k0)), (1, .ref (ad 35)), (2, .int v3)]) hx hb dX5_becomePairs_42 hl (by decide) rfl (fun ls hl => ?_)
      obtain ⟨n20, h⟩ := h
      have L9 : ∀ (v12 : Int32) (v13 : Int32) (K70 : TMem → Prop), (∀ (μ14 : TMem) (H : Heap) (locs : List Loc) (ls : Array Slot), TW D ad cI cM s μ14 H locs → lv_has ls 5 [(3, .int v12), (0, .ref (ad k0)), (1, .ref (ad 35)), (2, .int v13)] → K70 μ14 → W p l e (RM 2) s m #[.ref (ad k0), .ref (ad 35), .int a2] below meth c H locs 0 0 Z (F0 m 70 ls [])) → ∀ (n : Nat) (v11 : Int32) (μ14 : TMem) (H : Heap) (locs : List Loc) (ls : Array Slot), TW D ad cI cM s μ14 H locs → lv_has ls 5 [(4, .int v11), (3, .int v12), (0, .ref (ad k0)), (1, .ref (ad 35)), (2, .int v13)] → wpl_X5_becomePairs_44 k0 v12 v13 K70 n v11 μ14 → W p l e (RM 2) s m #[.ref (ad k0), .ref (ad 35), .int a2] below meth c H locs 0 0 Z (F0 m 44 ls []) := by
        intro v12 v13 K70 hK70
        intro n
        induction n with
        | zero => intro v11 μ14 H locs ls hw hl h; exact False.elim h
        | succ n ih9 =>
          intro v11 μ14 H locs ls hw hl h
          change ((3 : Int32) ≤ v11 → (K70 μ14)) ∧ (¬ (3 : Int32) ≤ v11 → (wp_X4_target μ14 v12 v11 (fun (r16 : Int32) => wp_X7_put k0 μ14 v12 v11 r16 (fun (μ19 : TMem) => wpl_X5_becomePairs_44 k0 v12 v13 K70 n (v11 + (1 : Int32)) μ19)))) at h
          refine lv_iload hx hb dX5_becomePairs_44 (lv_at hl 0 rfl) ?_
          refine lv_iconst (v := (3 : Int32)) hx hb dX5_becomePairs_46 (by decide) ?_
          refine lv_icmp_ge (tgt := 70) hx hb dX5_becomePairs_47 (by decide) (fun c15 => ?_) (fun c15 => ?_)
          · have h := h.1 c15
            exact hK70 μ14 H locs ls hw (lv_sub hl [1, 2, 3, 4] rfl) h
          have h := h.2 c15
          refine lv_aload_n hx hb dX5_becomePairs_50 rfl (lv_at hl 2 rfl) ?_
          refine lv_iload_n hx hb dX5_becomePairs_51 rfl (lv_at hl 1 rfl) ?_
          refine lv_iload hx hb dX5_becomePairs_52 (lv_at hl 0 rfl) ?_
          refine lv_aload_n hx hb dX5_becomePairs_54 rfl (lv_at hl 3 rfl) ?_
          refine lv_iload_n hx hb dX5_becomePairs_55 rfl (lv_at hl 1 rfl) ?_
          refine lv_iload hx hb dX5_becomePairs_56 (lv_at hl 0 rfl) ?_
          refine T_calli hw (va_runV (own := "Leastreader$Plain") (As := [.int v12, .int v11]) (rest := [.int v11, .int v12, .ref (ad k0)]) ⟨hx, hb, hml, hown, ht⟩ (c_X4_target μ14 H.size v12 v11 h) (cwV 2 ht (G_V q_812 q_813 q_814 q_54 q_815) rfl rfl rfl ⟨rfl, hd_17⟩ ⟨Nat.le_of_ble_eq_true rfl, Nat.le_of_ble_eq_true rfl⟩) ⟨TB.blind, (T_recv hK hw (kd_of rfl (by decide)) (ent_4 rfl) cl_4), TB.pre hK hN hw⟩ rfl rfl hl.1 rfl (lv_room (Nat.le_of_ble_eq_true rfl)) dX5_becomePairs_58 ⟨Nat.le_of_ble_eq_true rfl, Nat.le_of_ble_eq_true rfl⟩) (fun r16 μ17 H locs h hw => ?_)
          obtain ⟨e18, h⟩ := h
          rw [e18] at hw
          refine T_callv hw (va_runU (own := "Leastreader$Plain") (As := [.int v12, .int v11, .int r16]) (rest := []) ⟨hx, hb, hml, hown, ht⟩ (c_X7_put_5 k0 hk0 μ14 H.size v12 v11 r16 h) (va_cwU (owner := "Leastreader$Table") 3 ht (G_U q_816 q_427 q_429 q_430 q_47 q_431) rfl rfl rfl rfl hd_1 ⟨Nat.le_of_ble_eq_true rfl, Nat.le_of_ble_eq_true rfl⟩) ⟨TB.blind, (T_recv hK hw (kd_of hk0 (by decide)) (ent_5 hk0) cl_5), TB.pre hK hN hw⟩ rfl rfl hl.1 rfl (lv_room (Nat.le_of_ble_eq_true rfl)) dX5_becomePairs_61 ⟨Nat.le_of_ble_eq_true rfl, Nat.le_of_ble_eq_true rfl⟩) (fun μ19 H locs h hw => ?_)
          refine lv_iinc (v := (v11 + (1 : Int32))) (lv' := [(4, .int (v11 + (1 : Int32))), (3, .int v12), (0, .ref (ad k0)), (1, .ref (ad 35)), (2, .int v13)]) hx hb dX5_becomePairs_64 hl (k := 0) rfl rfl (by decide) rfl (fun ls hl => ?_)
          refine lv_goto (tgt := 44) hx hb dX5_becomePairs_67 (by decide) ?_
          exact ih9 (v11 + (1 : Int32)) μ19 H locs ls hw (lv_sub hl [0, 1, 2, 3, 4] rfl) h
      refine L9 v2 v3 _ ?_ n20 (0 : Int32) (tms μ4 k0 2 r9) H locs ls hw (lv_sub hl [0, 1, 2, 3, 4] rfl) h
      intro μ21 H locs ls hw hl h
      refine lv_iinc (v := (v2 + (1 : Int32))) (lv' := [(3, .int (v2 + (1 : Int32))), (0, .ref (ad k0)), (1, .ref (ad 35)), (2, .int v3)]) hx hb dX5_becomePairs_70 hl (k := 0) rfl rfl (by decide) rfl (fun ls hl => ?_)
      refine lv_goto (tgt := 15) hx hb dX5_becomePairs_73 (by decide) ?_
      exact ih0 (v2 + (1 : Int32)) μ21 H locs ls hw (lv_sub hl [0, 1, 2, 3] rfl) h
  exact L0 a2 n22 (0 : Int32) (tms (tms μ k0 1 (μ 35 8)) k0 2 (0 : Int32)) H locs ls hw (lv_sub hl [0, 1, 2, 3] rfl) h
def wp_X5_isGoal (k0 : Nat) (μ : TMem) (a1 : Int32) (Q : Int32 → Prop) : Prop :=
  wp_X9_isIn (μ k0 2) a1 (fun (r1 : Int32) => isB r1 ∧ Q r1)
set_option maxHeartbeats 4000000 in
set_option maxRecDepth 100000 in
theorem c_X5_isGoal {l : Launch} {D : va_G} {ad : Nat → Nat} {cI cM : ClassId} (k0 : Nat) (hk0 : kd k0 = 5) (μ : TMem) (sz : Nat) (a1 : Int32) {Q : Int32 → Prop} (h : wp_X5_isGoal k0 μ a1 Q) : TMi l yX5_isGoal (.code yX5_isGoal cX5_isGoal 2 (Option.some Jvm.ClassFile.FieldType.boolean)) 1 [.ref (ad k0), .int a1] D ad cI cM sz μ (fun r μ1 => μ1 = μ ∧ Q r) := by
  refine T_meti (by decide +kernel) (Nat.le_of_ble_eq_true rfl) ?_
  intro p e s m below meth c Z ls hx hb hml hown ht hN hK hw hret hl
  have hl : lv_has ls 2 [(0, .ref (ad k0)), (1, .int a1)] := hl
  generalize s.heap = H at hw ⊢
  generalize ([] : List Loc) = locs at hw ⊢
  change wp_X9_isIn (μ k0 2) a1 (fun (r1 : Int32) => isB r1 ∧ Q r1) at h
  refine lv_aload_n hx hb dX5_isGoal_0 rfl (lv_at hl 0 rfl) ?_
  refine gf_X5_9 hx hb ht hown hK hw hk0 dX5_isGoal_1 ?_
  refine lv_iload_n hx hb dX5_isGoal_4 rfl (lv_at hl 1 rfl) ?_
  refine P_calli (va_runSN (own := "Leastreader$Plain") (As := [.int (μ k0 2), .int a1]) (rest := []) ⟨hx, hb, hml, hown, ht⟩ (c_X9_isIn (μ k0 2) a1 h) ⟨va_cnB 2 ht (G_ws q_411) rfl rfl rfl (nw_465 hN) (ht _ q_46) hd_5 ⟨Nat.le_of_ble_eq_true rfl, Nat.le_of_ble_eq_true rfl⟩, ht _ q_410, trivial⟩ ⟨PM_blind, PM_pre⟩ rfl rfl hl.1 rfl (lv_room (Nat.le_of_ble_eq_true rfl)) dX5_isGoal_5 ⟨Nat.le_of_ble_eq_true rfl, Nat.le_of_ble_eq_true rfl⟩) (fun r1 h => ?_)
  obtain ⟨z2, h⟩ := h
  exact hret H locs ls 8 _ _ hw ⟨rfl, h⟩ (isB_n z2) dX5_isGoal_8
def wpl_X1_firstOfGoalness_2 (k0 : Nat) (μ : TMem) (v3 : Int32) (Q : Int32 → Prop) : Nat → Int32 → Prop
  | 0, _ => False
  | n + 1, v2 =>
    (v3 ≤ v2 → (Q v3)) ∧ (¬ v3 ≤ v2 → (wp_X5_isGoal k0 μ v2 (fun (r5 : Int32) => wp_X5_isGoal k0 μ v3 (fun (r8 : Int32) => (¬ r5 = r8 → (wpl_X1_firstOfGoalness_2 k0 μ v3 Q n (v2 + (1 : Int32)))) ∧ (r5 = r8 → (Q v2))))))
def wp_X1_firstOfGoalness (k0 : Nat) (μ : TMem) (a1 : Int32) (Q : Int32 → Prop) : Prop :=
  ∃ n0x, wpl_X1_firstOfGoalness_2 k0 μ a1 Q n0x (0 : Int32)
set_option maxHeartbeats 4000000 in
set_option maxRecDepth 100000 in
theorem c_X1_firstOfGoalness {l : Launch} {D : va_G} {ad : Nat → Nat} {cI cM : ClassId} (k0 : Nat) (hk0 : kd k0 = 5) (μ : TMem) (sz : Nat) (a1 : Int32) {Q : Int32 → Prop} (h : wp_X1_firstOfGoalness k0 μ a1 Q) : TMi l yX1_firstOfGoalness (.code yX1_firstOfGoalness cX1_firstOfGoalness 3 (Option.some Jvm.ClassFile.FieldType.int)) 2 [.ref (ad k0), .int a1] D ad cI cM sz μ (fun r μ1 => μ1 = μ ∧ Q r) := by
  refine T_meti (by decide +kernel) (Nat.le_of_ble_eq_true rfl) ?_
  intro p e s m below meth c Z ls hx hb hml hown ht hN hK hw hret hl
  have hl : lv_has ls 3 [(0, .ref (ad k0)), (1, .int a1)] := hl
  generalize s.heap = H at hw ⊢
  generalize ([] : List Loc) = locs at hw ⊢
  change ∃ n0x, wpl_X1_firstOfGoalness_2 k0 μ a1 Q n0x (0 : Int32) at h
  refine lv_iconst (v := (0 : Int32)) hx hb dX1_firstOfGoalness_0 (by decide) ?_
  refine lv_istore_n (lv' := [(2, .int (0 : Int32)), (0, .ref (ad k0)), (1, .int a1)]) hx hb dX1_firstOfGoalness_1 rfl hl (by decide) rfl (fun ls hl => ?_)
  obtain ⟨n12, h⟩ := h
  have L0 : ∀ (v3 : Int32), ∀ (n : Nat) (v2 : Int32) (H : Heap) (locs : List Loc) (ls : Array Slot), TW D ad cI cM s μ H locs → lv_has ls 3 [(2, .int v2), (0, .ref (ad k0)), (1, .int v3)] → wpl_X1_firstOfGoalness_2 k0 μ v3 Q n v2 → W p l e (RM 2) s m #[.ref (ad k0), .int a1] below meth c H locs 0 0 Z (F0 m 2 ls []) := by
    intro v3
    intro n
    induction n with
    | zero => intro v2 H locs ls hw hl h; exact False.elim h
    | succ n ih0 =>
      intro v2 H locs ls hw hl h
      change (v3 ≤ v2 → (Q v3)) ∧ (¬ v3 ≤ v2 → (wp_X5_isGoal k0 μ v2 (fun (r5 : Int32) => wp_X5_isGoal k0 μ v3 (fun (r8 : Int32) => (¬ r5 = r8 → (wpl_X1_firstOfGoalness_2 k0 μ v3 Q n (v2 + (1 : Int32)))) ∧ (r5 = r8 → (Q v2)))))) at h
      refine lv_iload_n hx hb dX1_firstOfGoalness_2 rfl (lv_at hl 0 rfl) ?_
      refine lv_iload_n hx hb dX1_firstOfGoalness_3 rfl (lv_at hl 2 rfl) ?_
      refine lv_icmp_ge (tgt := 28) hx hb dX1_firstOfGoalness_4 (by decide) (fun c4 => ?_) (fun c4 => ?_)
      · have h := h.1 c4
        refine lv_iload_n hx hb dX1_firstOfGoalness_28 rfl (lv_at hl 2 rfl) ?_
        exact hret H locs ls 29 _ _ hw ⟨rfl, h⟩ rfl dX1_firstOfGoalness_29
      have h := h.2 c4
      refine lv_aload_n hx hb dX1_firstOfGoalness_7 rfl (lv_at hl 1 rfl) ?_
      refine lv_iload_n hx hb dX1_firstOfGoalness_8 rfl (lv_at hl 0 rfl) ?_
      refine T_calli hw (va_runV (own := "Leastreader$Likeness") (As := [.int v2]) (rest := []) ⟨hx, hb, hml, hown, ht⟩ (c_X5_isGoal k0 hk0 μ H.size v2 h) (cwV 1 ht (G_V q_461 q_462 q_463 q_53 q_464) rfl rfl rfl ⟨rfl, hd_18⟩ ⟨Nat.le_of_ble_eq_true rfl, Nat.le_of_ble_eq_true rfl⟩) ⟨TB.blind, (T_recv hK hw (kd_of hk0 (by decide)) (ent_5 hk0) cl_5), TB.pre hK hN hw⟩ rfl rfl hl.1 rfl (lv_room (Nat.le_of_ble_eq_true rfl)) dX1_firstOfGoalness_9 ⟨Nat.le_of_ble_eq_true rfl, Nat.le_of_ble_eq_true rfl⟩) (fun r5 μ6 H locs h hw => ?_)
      obtain ⟨e7, h⟩ := h
      rw [e7] at hw
      refine lv_aload_n hx hb dX1_firstOfGoalness_12 rfl (lv_at hl 1 rfl) ?_
      refine lv_iload_n hx hb dX1_firstOfGoalness_13 rfl (lv_at hl 2 rfl) ?_
      refine T_calli hw (va_runV (own := "Leastreader$Likeness") (As := [.int v3]) (rest := [.int r5]) ⟨hx, hb, hml, hown, ht⟩ (c_X5_isGoal k0 hk0 μ H.size v3 h) (cwV 1 ht (G_V q_461 q_462 q_463 q_53 q_464) rfl rfl rfl ⟨rfl, hd_18⟩ ⟨Nat.le_of_ble_eq_true rfl, Nat.le_of_ble_eq_true rfl⟩) ⟨TB.blind, (T_recv hK hw (kd_of hk0 (by decide)) (ent_5 hk0) cl_5), TB.pre hK hN hw⟩ rfl rfl hl.1 rfl (lv_room (Nat.le_of_ble_eq_true rfl)) dX1_firstOfGoalness_14 ⟨Nat.le_of_ble_eq_true rfl, Nat.le_of_ble_eq_true rfl⟩) (fun r8 μ9 H locs h hw => ?_)
      obtain ⟨e10, h⟩ := h
      rw [e10] at hw
      refine lv_icmp_ne (tgt := 22) hx hb dX1_firstOfGoalness_17 (by decide) (fun c11 => ?_) (fun c11 => ?_)
      · have h := h.1 c11
        refine lv_iinc (v := (v2 + (1 : Int32))) (lv' := [(2, .int (v2 + (1 : Int32))), (0, .ref (ad k0)), (1, .int v3)]) hx hb dX1_firstOfGoalness_22 hl (k := 0) rfl rfl (by decide) rfl (fun ls hl => ?_)
        refine lv_goto (tgt := 2) hx hb dX1_firstOfGoalness_25 (by decide) ?_
        exact ih0 (v2 + (1 : Int32)) H locs ls hw (lv_sub hl [0, 1, 2] rfl) h
      have h := h.2 c11
      refine lv_iload_n hx hb dX1_firstOfGoalness_20 rfl (lv_at hl 0 rfl) ?_
      exact hret H locs ls 21 _ _ hw ⟨rfl, h⟩ rfl dX1_firstOfGoalness_21
  exact L0 a1 n12 (0 : Int32) H locs ls hw (lv_sub hl [0, 1, 2] rfl) h
def wpl_X1_codeOf_12 (k1 : Nat) (μ : TMem) (v7 : Int32) (Q : Int32 → Prop) : Nat → Int32 → Int32 → Prop
  | 0, _, _ => False
  | n + 1, v5, v6 =>
    ((3 : Int32) ≤ v5 → (Q v6)) ∧ (¬ (3 : Int32) ≤ v5 → (wp_X7_at k1 μ v7 v5 (fun (r9 : Int32) => wp_X6_at 23 μ r9 (fun (r12 : Int32) => wpl_X1_codeOf_12 k1 μ v7 Q n (v5 + (1 : Int32)) ((v6 * (32 : Int32)) + r12)))))
def wp_X1_codeOf (k1 : Nat) (μ : TMem) (a2 : Int32) (Q : Int32 → Prop) : Prop :=
  wp_X6_at 23 μ a2 (fun (r1 : Int32) => ∃ n3x, wpl_X1_codeOf_12 k1 μ a2 Q n3x (0 : Int32) r1)
set_option maxHeartbeats 4000000 in
set_option maxRecDepth 100000 in
theorem c_X1_codeOf {l : Launch} {D : va_G} {ad : Nat → Nat} {cI cM : ClassId} (k1 : Nat) (hk1 : kd k1 = 5) (μ : TMem) (sz : Nat) (a2 : Int32) {Q : Int32 → Prop} (h : wp_X1_codeOf k1 μ a2 Q) : TMi l yX1_codeOf (.code yX1_codeOf cX1_codeOf 5 (Option.some Jvm.ClassFile.FieldType.int)) 1 [.ref (ad 22), .ref (ad k1), .int a2] D ad cI cM sz μ (fun r μ1 => μ1 = μ ∧ Q r) := by
  refine T_meti (by decide +kernel) (Nat.le_of_ble_eq_true rfl) ?_
  intro p e s m below meth c Z ls hx hb hml hown ht hN hK hw hret hl
  have hl : lv_has ls 5 [(0, .ref (ad 22)), (1, .ref (ad k1)), (2, .int a2)] := hl
  generalize s.heap = H at hw ⊢
  generalize ([] : List Loc) = locs at hw ⊢
  change wp_X6_at 23 μ a2 (fun (r1 : Int32) => ∃ n3x, wpl_X1_codeOf_12 k1 μ a2 Q n3x (0 : Int32) r1) at h
  refine lv_aload_n hx hb dX1_codeOf_0 rfl (lv_at hl 0 rfl) ?_
  refine gf_X1_14 hx hb ht hown hK hw rfl dX1_codeOf_1 ?_
  refine W.eq (g2 := F0 m 4 ls [.ref (ad 23)]) rfl ?_
  refine lv_iload_n hx hb dX1_codeOf_4 rfl (lv_at hl 2 rfl) ?_
  refine T_calli hw (va_runV (own := "Leastreader$Likeness") (As := [.int a2]) (rest := []) ⟨hx, hb, hml, hown, ht⟩ (c_X6_at 23 rfl μ H.size a2 h) (cwV 1 ht (G_V q_471 q_399 q_400 q_51 q_401) rfl rfl rfl ⟨rfl, hd_8⟩ ⟨Nat.le_of_ble_eq_true rfl, Nat.le_of_ble_eq_true rfl⟩) ⟨TB.blind, (T_recv hK hw (kd_of rfl (by decide)) (ent_6 rfl) cl_6), TB.pre hK hN hw⟩ rfl rfl hl.1 rfl (lv_room (Nat.le_of_ble_eq_true rfl)) dX1_codeOf_5 ⟨Nat.le_of_ble_eq_true rfl, Nat.le_of_ble_eq_true rfl⟩) (fun r1 μ2 H locs h hw => ?_)
  obtain ⟨e3, h⟩ := h
  rw [e3] at hw
  refine lv_istore_n (lv' := [(3, .int r1), (0, .ref (ad 22)), (1, .ref (ad k1)), (2, .int a2)]) hx hb dX1_codeOf_8 rfl hl (by decide) rfl (fun ls hl => ?_)
  refine lv_iconst (v := (0 : Int32)) hx hb dX1_codeOf_9 (by decide) ?_
  refine lv_istore (lv' := [(4, .int (0 : Int32)), (3, .int r1), (0, .ref (ad 22)), (1, .ref (ad k1)), (2, .int a2)]) hx hb dX1_codeOf_10 hl (by decide) rfl (fun ls hl => ?_)
  obtain ⟨n15, h⟩ := h
  have L3 : ∀ (v7 : Int32), ∀ (n : Nat) (v5 : Int32) (v6 : Int32) (H : Heap) (locs : List Loc) (ls : Array Slot), TW D ad cI cM s μ H locs → lv_has ls 5 [(4, .int v5), (3, .int v6), (0, .ref (ad 22)), (1, .ref (ad k1)), (2, .int v7)] → wpl_X1_codeOf_12 k1 μ v7 Q n v5 v6 → W p l e (RM 1) s m #[.ref (ad 22), .ref (ad k1), .int a2] below meth c H locs 0 0 Z (F0 m 12 ls []) := by
    intro v7
    intro n
    induction n with
    | zero => intro v5 v6 H locs ls hw hl h; exact False.elim h
    | succ n ih3 =>
      intro v5 v6 H locs ls hw hl h
      change ((3 : Int32) ≤ v5 → (Q v6)) ∧ (¬ (3 : Int32) ≤ v5 → (wp_X7_at k1 μ v7 v5 (fun (r9 : Int32) => wp_X6_at 23 μ r9 (fun (r12 : Int32) => wpl_X1_codeOf_12 k1 μ v7 Q n (v5 + (1 : Int32)) ((v6 * (32 : Int32)) + r12))))) at h
      refine lv_iload hx hb dX1_codeOf_12 (lv_at hl 0 rfl) ?_
      refine lv_iconst (v := (3 : Int32)) hx hb dX1_codeOf_14 (by decide) ?_
      refine lv_icmp_ge (tgt := 44) hx hb dX1_codeOf_15 (by decide) (fun c8 => ?_) (fun c8 => ?_)
      · have h := h.1 c8
        refine lv_iload_n hx hb dX1_codeOf_44 rfl (lv_at hl 1 rfl) ?_
        exact hret H locs ls 45 _ _ hw ⟨rfl, h⟩ rfl dX1_codeOf_45
      have h := h.2 c8
      refine lv_iload_n hx hb dX1_codeOf_18 rfl (lv_at hl 1 rfl) ?_
      refine lv_bipush (v := (32 : Int32)) hx hb dX1_codeOf_19 (by decide) ?_
      refine lv_imul hx hb dX1_codeOf_21 ?_
      refine lv_aload_n hx hb dX1_codeOf_22 rfl (lv_at hl 2 rfl) ?_
      refine gf_X1_14 hx hb ht hown hK hw rfl dX1_codeOf_23 ?_
      refine W.eq (g2 := F0 m 26 ls [.ref (ad 23), .int (v6 * (32 : Int32))]) rfl ?_
      refine lv_aload_n hx hb dX1_codeOf_26 rfl (lv_at hl 3 rfl) ?_
      refine lv_iload_n hx hb dX1_codeOf_27 rfl (lv_at hl 4 rfl) ?_
      refine lv_iload hx hb dX1_codeOf_28 (lv_at hl 0 rfl) ?_
      refine T_calli hw (va_runU (own := "Leastreader$Likeness") (As := [.int v7, .int v5]) (rest := [.ref (ad 23), .int (v6 * (32 : Int32))]) ⟨hx, hb, hml, hown, ht⟩ (c_X7_at_5 k1 hk1 μ H.size v7 v5 h) (va_cwU (owner := "Leastreader$Table") 2 ht (G_U q_477 q_452 q_453 q_416 q_47 q_417) rfl rfl rfl rfl hd_0 ⟨Nat.le_of_ble_eq_true rfl, Nat.le_of_ble_eq_true rfl⟩) ⟨TB.blind, (T_recv hK hw (kd_of hk1 (by decide)) (ent_5 hk1) cl_5), TB.pre hK hN hw⟩ rfl rfl hl.1 rfl (lv_room (Nat.le_of_ble_eq_true rfl)) dX1_codeOf_30 ⟨Nat.le_of_ble_eq_true rfl, Nat.le_of_ble_eq_true rfl⟩) (fun r9 μ10 H locs h hw => ?_)
      obtain ⟨e11, h⟩ := h
      rw [e11] at hw
      refine T_calli hw (va_runV (own := "Leastreader$Likeness") (As := [.int r9]) (rest := [.int (v6 * (32 : Int32))]) ⟨hx, hb, hml, hown, ht⟩ (c_X6_at 23 rfl μ H.size r9 h) (cwV 1 ht (G_V q_471 q_399 q_400 q_51 q_401) rfl rfl rfl ⟨rfl, hd_8⟩ ⟨Nat.le_of_ble_eq_true rfl, Nat.le_of_ble_eq_true rfl⟩) ⟨TB.blind, (T_recv hK hw (kd_of rfl (by decide)) (ent_6 rfl) cl_6), TB.pre hK hN hw⟩ rfl rfl hl.1 rfl (lv_room (Nat.le_of_ble_eq_true rfl)) dX1_codeOf_33 ⟨Nat.le_of_ble_eq_true rfl, Nat.le_of_ble_eq_true rfl⟩) (fun r12 μ13 H locs h hw => ?_)
      obtain ⟨e14, h⟩ := h
      rw [e14] at hw
      refine lv_iadd hx hb dX1_codeOf_36 ?_
      refine lv_istore_n (lv' := [(3, .int ((v6 * (32 : Int32)) + r12)), (4, .int v5), (0, .ref (ad 22)), (1, .ref (ad k1)), (2, .int v7)]) hx hb dX1_codeOf_37 rfl hl (by decide) rfl (fun ls hl => ?_)
      refine lv_iinc (v := (v5 + (1 : Int32))) (lv' := [(4, .int (v5 + (1 : Int32))), (3, .int ((v6 * (32 : Int32)) + r12)), (0, .ref (ad 22)), (1, .ref (ad k1)), (2, .int v7)]) hx hb dX1_codeOf_38 hl (k := 1) rfl rfl (by decide) rfl (fun ls hl => ?_)
      refine lv_goto (tgt := 12) hx hb dX1_codeOf_41 (by decide) ?_
      exact ih3 (v5 + (1 : Int32)) ((v6 * (32 : Int32)) + r12) H locs ls hw (lv_sub hl [0, 1, 2, 3, 4] rfl) h
  exact L3 a2 n15 (0 : Int32) r1 H locs ls hw (lv_sub hl [0, 1, 2, 3, 4] rfl) h
def wpl_X1_partOnce_2 (k1 : Nat) (K30 : TMem → Prop) : Nat → Int32 → TMem → Prop
  | 0, _, _ => False
  | n + 1, v2, μ3 =>
    ((μ3 k1 1) ≤ v2 → (K30 μ3)) ∧ (¬ (μ3 k1 1) ≤ v2 → (wp_X1_codeOf k1 μ3 v2 (fun (r5 : Int32) => wp_X6_put 25 μ3 v2 r5 (fun (μ8 : TMem) => wpl_X1_partOnce_2 k1 K30 n (v2 + (1 : Int32)) μ8))))
def wpl_X1_partOnce_34 (k1 : Nat) (Q : Int32 → TMem → Prop) : Nat → Int32 → Int32 → TMem → Prop
  | 0, _, _, _ => False
  | n + 1, v12, v13, μ14 =>
    ((μ14 k1 1) ≤ v12 → (isB v13 ∧ Q v13 μ14)) ∧ (¬ (μ14 k1 1) ≤ v12 → (wp_X6_at 25 μ14 v12 (fun (r17 : Int32) => wp_X6_find 25 μ14 r17 (μ14 k1 1) (fun (r20 : Int32) => wp_X6_at 23 μ14 v12 (fun (r23 : Int32) => ∀ J26 : Int32 → Prop, (∀ (j27 : Int32), (wp_X6_put 23 μ14 v12 r20 (fun (μ28 : TMem) => wpl_X1_partOnce_34 k1 Q n (v12 + (1 : Int32)) (v13 ||| j27) μ28)) → J26 j27) → ((r20 = r23 → (J26 (0 : Int32))) ∧ (¬ r20 = r23 → (J26 (1 : Int32)))))))))
def wp_X1_partOnce (k1 : Nat) (μ : TMem) (Q : Int32 → TMem → Prop) : Prop :=
  ∃ n0x, wpl_X1_partOnce_2 k1 (fun (μ10 : TMem) => ∃ n10x, wpl_X1_partOnce_34 k1 Q n10x (0 : Int32) (0 : Int32) μ10) n0x (0 : Int32) μ
set_option maxHeartbeats 4000000 in
set_option maxRecDepth 100000 in
theorem c_X1_partOnce {l : Launch} {D : va_G} {ad : Nat → Nat} {cI cM : ClassId} (k1 : Nat) (hk1 : kd k1 = 5) (μ : TMem) (sz : Nat)  {Q : Int32 → TMem → Prop} (h : wp_X1_partOnce k1 μ Q) : TMi l yX1_partOnce (.code yX1_partOnce cX1_partOnce 5 (Option.some Jvm.ClassFile.FieldType.boolean)) 2 [.ref (ad 22), .ref (ad k1)] D ad cI cM sz μ Q := by
  refine T_meti (by decide +kernel) (Nat.le_of_ble_eq_true rfl) ?_
  intro p e s m below meth c Z ls hx hb hml hown ht hN hK hw hret hl
  have hl : lv_has ls 5 [(0, .ref (ad 22)), (1, .ref (ad k1))] := hl
  generalize s.heap = H at hw ⊢
  generalize ([] : List Loc) = locs at hw ⊢
  change ∃ n0x, wpl_X1_partOnce_2 k1 (fun (μ10 : TMem) => ∃ n10x, wpl_X1_partOnce_34 k1 Q n10x (0 : Int32) (0 : Int32) μ10) n0x (0 : Int32) μ at h
  refine lv_iconst (v := (0 : Int32)) hx hb dX1_partOnce_0 (by decide) ?_
  refine lv_istore_n (lv' := [(2, .int (0 : Int32)), (0, .ref (ad 22)), (1, .ref (ad k1))]) hx hb dX1_partOnce_1 rfl hl (by decide) rfl (fun ls hl => ?_)
  obtain ⟨n9, h⟩ := h
  have L0 : ∀ (K30 : TMem → Prop), (∀ (μ3 : TMem) (H : Heap) (locs : List Loc) (ls : Array Slot), TW D ad cI cM s μ3 H locs → lv_has ls 5 [(0, .ref (ad 22)), (1, .ref (ad k1))] → K30 μ3 → W p l e (RM 2) s m #[.ref (ad 22), .ref (ad k1)] below meth c H locs 0 0 Z (F0 m 30 ls [])) → ∀ (n : Nat) (v2 : Int32) (μ3 : TMem) (H : Heap) (locs : List Loc) (ls : Array Slot), TW D ad cI cM s μ3 H locs → lv_has ls 5 [(2, .int v2), (0, .ref (ad 22)), (1, .ref (ad k1))] → wpl_X1_partOnce_2 k1 K30 n v2 μ3 → W p l e (RM 2) s m #[.ref (ad 22), .ref (ad k1)] below meth c H locs 0 0 Z (F0 m 2 ls []) := by
    intro K30 hK30
    intro n
    induction n with
    | zero => intro v2 μ3 H locs ls hw hl h; exact False.elim h
    | succ n ih0 =>
      intro v2 μ3 H locs ls hw hl h
      change ((μ3 k1 1) ≤ v2 → (K30 μ3)) ∧ (¬ (μ3 k1 1) ≤ v2 → (wp_X1_codeOf k1 μ3 v2 (fun (r5 : Int32) => wp_X6_put 25 μ3 v2 r5 (fun (μ8 : TMem) => wpl_X1_partOnce_2 k1 K30 n (v2 + (1 : Int32)) μ8)))) at h
      refine lv_iload_n hx hb dX1_partOnce_2 rfl (lv_at hl 0 rfl) ?_
      refine lv_aload_n hx hb dX1_partOnce_3 rfl (lv_at hl 2 rfl) ?_
      refine gf_X1_30 hx hb ht hown hK hw hk1 dX1_partOnce_4 ?_
      refine lv_icmp_ge (tgt := 30) hx hb dX1_partOnce_7 (by decide) (fun c4 => ?_) (fun c4 => ?_)
      · have h := h.1 c4
        exact hK30 μ3 H locs ls hw (lv_sub hl [1, 2] rfl) h
      have h := h.2 c4
      refine lv_aload_n hx hb dX1_partOnce_10 rfl (lv_at hl 1 rfl) ?_
      refine gf_X1_20 hx hb ht hown hK hw rfl dX1_partOnce_11 ?_
      refine W.eq (g2 := F0 m 14 ls [.ref (ad 25)]) rfl ?_
      refine lv_iload_n hx hb dX1_partOnce_14 rfl (lv_at hl 0 rfl) ?_
      refine lv_aload_n hx hb dX1_partOnce_15 rfl (lv_at hl 1 rfl) ?_
      refine lv_aload_n hx hb dX1_partOnce_16 rfl (lv_at hl 2 rfl) ?_
      refine lv_iload_n hx hb dX1_partOnce_17 rfl (lv_at hl 0 rfl) ?_
      refine T_calli hw (va_runV (own := "Leastreader$Likeness") (As := [.ref (ad k1), .int v2]) (rest := [.int v2, .ref (ad 25)]) ⟨hx, hb, hml, hown, ht⟩ (c_X1_codeOf k1 hk1 μ3 H.size v2 h) (cwV 2 ht (G_V q_493 q_495 q_9 q_52 q_496) rfl rfl rfl ⟨rfl, hd_19⟩ ⟨Nat.le_of_ble_eq_true rfl, Nat.le_of_ble_eq_true rfl⟩) ⟨TB.blind, (T_recv hK hw (kd_of rfl (by decide)) (ent_1 rfl) cl_1), TB.pre hK hN hw⟩ rfl rfl hl.1 rfl (lv_room (Nat.le_of_ble_eq_true rfl)) dX1_partOnce_18 ⟨Nat.le_of_ble_eq_true rfl, Nat.le_of_ble_eq_true rfl⟩) (fun r5 μ6 H locs h hw => ?_)
      obtain ⟨e7, h⟩ := h
      rw [e7] at hw
      refine T_callv hw (va_runV (own := "Leastreader$Likeness") (As := [.int v2, .int r5]) (rest := []) ⟨hx, hb, hml, hown, ht⟩ (c_X6_put 25 rfl μ3 H.size v2 r5 h) (cwV 2 ht (G_V q_466 q_395 q_396 q_51 q_397) rfl rfl rfl ⟨rfl, hd_7⟩ ⟨Nat.le_of_ble_eq_true rfl, Nat.le_of_ble_eq_true rfl⟩) ⟨TB.blind, (T_recv hK hw (kd_of rfl (by decide)) (ent_6 rfl) cl_6), TB.pre hK hN hw⟩ rfl rfl hl.1 rfl (lv_room (Nat.le_of_ble_eq_true rfl)) dX1_partOnce_21 ⟨Nat.le_of_ble_eq_true rfl, Nat.le_of_ble_eq_true rfl⟩) (fun μ8 H locs h hw => ?_)
      refine lv_iinc (v := (v2 + (1 : Int32))) (lv' := [(2, .int (v2 + (1 : Int32))), (0, .ref (ad 22)), (1, .ref (ad k1))]) hx hb dX1_partOnce_24 hl (k := 0) rfl rfl (by decide) rfl (fun ls hl => ?_)
      refine lv_goto (tgt := 2) hx hb dX1_partOnce_27 (by decide) ?_
      exact ih0 (v2 + (1 : Int32)) μ8 H locs ls hw (lv_sub hl [0, 1, 2] rfl) h
  refine L0 _ ?_ n9 (0 : Int32) μ H locs ls hw (lv_sub hl [0, 1, 2] rfl) h
  intro μ10 H locs ls hw hl h
  refine lv_iconst (v := (0 : Int32)) hx hb dX1_partOnce_30 (by decide) ?_
  refine lv_istore_n (lv' := [(2, .int (0 : Int32)), (0, .ref (ad 22)), (1, .ref (ad k1))]) hx hb dX1_partOnce_31 rfl hl (by decide) rfl (fun ls hl => ?_)
  refine lv_iconst (v := (0 : Int32)) hx hb dX1_partOnce_32 (by decide) ?_
  refine lv_istore_n (lv' := [(3, .int (0 : Int32)), (2, .int (0 : Int32)), (0, .ref (ad 22)), (1, .ref (ad k1))]) hx hb dX1_partOnce_33 rfl hl (by decide) rfl (fun ls hl => ?_)
  obtain ⟨n30, h⟩ := h
  have L10 : ∀ (n : Nat) (v12 : Int32) (v13 : Int32) (μ14 : TMem) (H : Heap) (locs : List Loc) (ls : Array Slot), TW D ad cI cM s μ14 H locs → lv_has ls 5 [(3, .int v12), (2, .int v13), (0, .ref (ad 22)), (1, .ref (ad k1))] → wpl_X1_partOnce_34 k1 Q n v12 v13 μ14 → W p l e (RM 2) s m #[.ref (ad 22), .ref (ad k1)] below meth c H locs 0 0 Z (F0 m 34 ls []) := by
    intro n
    induction n with
    | zero => intro v12 v13 μ14 H locs ls hw hl h; exact False.elim h
    | succ n ih10 =>
      intro v12 v13 μ14 H locs ls hw hl h
      change ((μ14 k1 1) ≤ v12 → (isB v13 ∧ Q v13 μ14)) ∧ (¬ (μ14 k1 1) ≤ v12 → (wp_X6_at 25 μ14 v12 (fun (r17 : Int32) => wp_X6_find 25 μ14 r17 (μ14 k1 1) (fun (r20 : Int32) => wp_X6_at 23 μ14 v12 (fun (r23 : Int32) => ∀ J26 : Int32 → Prop, (∀ (j27 : Int32), (wp_X6_put 23 μ14 v12 r20 (fun (μ28 : TMem) => wpl_X1_partOnce_34 k1 Q n (v12 + (1 : Int32)) (v13 ||| j27) μ28)) → J26 j27) → ((r20 = r23 → (J26 (0 : Int32))) ∧ (¬ r20 = r23 → (J26 (1 : Int32))))))))) at h
      refine lv_iload_n hx hb dX1_partOnce_34 rfl (lv_at hl 0 rfl) ?_
      refine lv_aload_n hx hb dX1_partOnce_35 rfl (lv_at hl 3 rfl) ?_
      refine gf_X1_30 hx hb ht hown hK hw hk1 dX1_partOnce_36 ?_
      refine lv_icmp_ge (tgt := 100) hx hb dX1_partOnce_39 (by decide) (fun c15 => ?_) (fun c15 => ?_)
      · have h := h.1 c15
        refine lv_iload_n hx hb dX1_partOnce_100 rfl (lv_at hl 1 rfl) ?_
        obtain ⟨z16, h⟩ := h
        exact hret H locs ls 101 _ _ hw h (isB_n z16) dX1_partOnce_101
      have h := h.2 c15
      refine lv_aload_n hx hb dX1_partOnce_42 rfl (lv_at hl 2 rfl) ?_
      refine gf_X1_20 hx hb ht hown hK hw rfl dX1_partOnce_43 ?_
      refine W.eq (g2 := F0 m 46 ls [.ref (ad 25)]) rfl ?_
      refine lv_aload_n hx hb dX1_partOnce_46 rfl (lv_at hl 2 rfl) ?_
      refine gf_X1_20 hx hb ht hown hK hw rfl dX1_partOnce_47 ?_
      refine W.eq (g2 := F0 m 50 ls [.ref (ad 25), .ref (ad 25)]) rfl ?_
      refine lv_iload_n hx hb dX1_partOnce_50 rfl (lv_at hl 0 rfl) ?_
      refine T_calli hw (va_runV (own := "Leastreader$Likeness") (As := [.int v12]) (rest := [.ref (ad 25)]) ⟨hx, hb, hml, hown, ht⟩ (c_X6_at 25 rfl μ14 H.size v12 h) (cwV 1 ht (G_V q_471 q_399 q_400 q_51 q_401) rfl rfl rfl ⟨rfl, hd_8⟩ ⟨Nat.le_of_ble_eq_true rfl, Nat.le_of_ble_eq_true rfl⟩) ⟨TB.blind, (T_recv hK hw (kd_of rfl (by decide)) (ent_6 rfl) cl_6), TB.pre hK hN hw⟩ rfl rfl hl.1 rfl (lv_room (Nat.le_of_ble_eq_true rfl)) dX1_partOnce_51 ⟨Nat.le_of_ble_eq_true rfl, Nat.le_of_ble_eq_true rfl⟩) (fun r17 μ18 H locs h hw => ?_)
      obtain ⟨e19, h⟩ := h
      rw [e19] at hw
      refine lv_aload_n hx hb dX1_partOnce_54 rfl (lv_at hl 3 rfl) ?_
      refine gf_X1_30 hx hb ht hown hK hw hk1 dX1_partOnce_55 ?_
      refine T_calli hw (va_runV (own := "Leastreader$Likeness") (As := [.int r17, .int (μ14 k1 1)]) (rest := []) ⟨hx, hb, hml, hown, ht⟩ (c_X6_find 25 rfl μ14 H.size r17 (μ14 k1 1) h) (cwV 2 ht (G_V q_497 q_423 q_424 q_51 q_425) rfl rfl rfl ⟨rfl, hd_6⟩ ⟨Nat.le_of_ble_eq_true rfl, Nat.le_of_ble_eq_true rfl⟩) ⟨TB.blind, (T_recv hK hw (kd_of rfl (by decide)) (ent_6 rfl) cl_6), TB.pre hK hN hw⟩ rfl rfl hl.1 rfl (lv_room (Nat.le_of_ble_eq_true rfl)) dX1_partOnce_58 ⟨Nat.le_of_ble_eq_true rfl, Nat.le_of_ble_eq_true rfl⟩) (fun r20 μ21 H locs h hw => ?_)
      obtain ⟨e22, h⟩ := h
      rw [e22] at hw
      refine lv_istore (lv' := [(4, .int r20), (3, .int v12), (2, .int v13), (0, .ref (ad 22)), (1, .ref (ad k1))]) hx hb dX1_partOnce_61 hl (by decide) rfl (fun ls hl => ?_)
      refine lv_iload_n hx hb dX1_partOnce_63 rfl (lv_at hl 2 rfl) ?_
      refine lv_iload hx hb dX1_partOnce_64 (lv_at hl 0 rfl) ?_
      refine lv_aload_n hx hb dX1_partOnce_66 rfl (lv_at hl 3 rfl) ?_
      refine gf_X1_14 hx hb ht hown hK hw rfl dX1_partOnce_67 ?_
      refine W.eq (g2 := F0 m 70 ls [.ref (ad 23), .int r20, .int v13]) rfl ?_
      refine lv_iload_n hx hb dX1_partOnce_70 rfl (lv_at hl 1 rfl) ?_
      refine T_calli hw (va_runV (own := "Leastreader$Likeness") (As := [.int v12]) (rest := [.int r20, .int v13]) ⟨hx, hb, hml, hown, ht⟩ (c_X6_at 23 rfl μ14 H.size v12 h) (cwV 1 ht (G_V q_471 q_399 q_400 q_51 q_401) rfl rfl rfl ⟨rfl, hd_8⟩ ⟨Nat.le_of_ble_eq_true rfl, Nat.le_of_ble_eq_true rfl⟩) ⟨TB.blind, (T_recv hK hw (kd_of rfl (by decide)) (ent_6 rfl) cl_6), TB.pre hK hN hw⟩ rfl rfl hl.1 rfl (lv_room (Nat.le_of_ble_eq_true rfl)) dX1_partOnce_71 ⟨Nat.le_of_ble_eq_true rfl, Nat.le_of_ble_eq_true rfl⟩) (fun r23 μ24 H locs h hw => ?_)
      obtain ⟨e25, h⟩ := h
      rw [e25] at hw
      have h := h (fun j27 => ∀ (H : Heap) (locs : List Loc) (ls : Array Slot), TW D ad cI cM s μ14 H locs → lv_has ls 5 [(4, .int r20), (3, .int v12), (0, .ref (ad 22)), (1, .ref (ad k1))] → W p l e (RM 2) s m #[.ref (ad 22), .ref (ad k1)] below meth c H locs 0 0 Z (F0 m 82 ls [.int j27, .int v13])) (fun j27 h H locs ls hw hl => by
        refine lv_ior hx hb dX1_partOnce_82 ?_
        refine lv_istore_n (lv' := [(2, .int (v13 ||| j27)), (4, .int r20), (3, .int v12), (0, .ref (ad 22)), (1, .ref (ad k1))]) hx hb dX1_partOnce_83 rfl hl (by decide) rfl (fun ls hl => ?_)
        refine lv_aload_n hx hb dX1_partOnce_84 rfl (lv_at hl 3 rfl) ?_
        refine gf_X1_14 hx hb ht hown hK hw rfl dX1_partOnce_85 ?_
        refine W.eq (g2 := F0 m 88 ls [.ref (ad 23)]) rfl ?_
        refine lv_iload_n hx hb dX1_partOnce_88 rfl (lv_at hl 2 rfl) ?_
        refine lv_iload hx hb dX1_partOnce_89 (lv_at hl 1 rfl) ?_
        refine T_callv hw (va_runV (own := "Leastreader$Likeness") (As := [.int v12, .int r20]) (rest := []) ⟨hx, hb, hml, hown, ht⟩ (c_X6_put 23 rfl μ14 H.size v12 r20 h) (cwV 2 ht (G_V q_466 q_395 q_396 q_51 q_397) rfl rfl rfl ⟨rfl, hd_7⟩ ⟨Nat.le_of_ble_eq_true rfl, Nat.le_of_ble_eq_true rfl⟩) ⟨TB.blind, (T_recv hK hw (kd_of rfl (by decide)) (ent_6 rfl) cl_6), TB.pre hK hN hw⟩ rfl rfl hl.1 rfl (lv_room (Nat.le_of_ble_eq_true rfl)) dX1_partOnce_91 ⟨Nat.le_of_ble_eq_true rfl, Nat.le_of_ble_eq_true rfl⟩) (fun μ28 H locs h hw => ?_)
        refine lv_iinc (v := (v12 + (1 : Int32))) (lv' := [(3, .int (v12 + (1 : Int32))), (2, .int (v13 ||| j27)), (4, .int r20), (0, .ref (ad 22)), (1, .ref (ad k1))]) hx hb dX1_partOnce_94 hl (k := 2) rfl rfl (by decide) rfl (fun ls hl => ?_)
        refine lv_goto (tgt := 34) hx hb dX1_partOnce_97 (by decide) ?_
        exact ih10 (v12 + (1 : Int32)) (v13 ||| j27) μ28 H locs ls hw (lv_sub hl [0, 1, 3, 4] rfl) h)
      refine lv_icmp_eq (tgt := 81) hx hb dX1_partOnce_74 (by decide) (fun c29 => ?_) (fun c29 => ?_)
      · have h := h.1 c29
        refine lv_iconst (v := (0 : Int32)) hx hb dX1_partOnce_81 (by decide) ?_
        exact h H locs ls hw (lv_sub hl [0, 1, 3, 4] rfl)
      have h := h.2 c29
      refine lv_iconst (v := (1 : Int32)) hx hb dX1_partOnce_77 (by decide) ?_
      refine lv_goto (tgt := 82) hx hb dX1_partOnce_78 (by decide) ?_
      exact h H locs ls hw (lv_sub hl [0, 1, 3, 4] rfl)
  exact L10 n30 (0 : Int32) (0 : Int32) μ10 H locs ls hw (lv_sub hl [0, 1, 2, 3] rfl) h
def wpl_X1_findByParting_2 (k1 : Nat) (K29 : TMem → Prop) : Nat → Int32 → TMem → Prop
  | 0, _, _ => False
  | n + 1, v2, μ3 =>
    ((μ3 k1 1) ≤ v2 → (K29 μ3)) ∧ (¬ (μ3 k1 1) ≤ v2 → (wp_X1_firstOfGoalness k1 μ3 v2 (fun (r5 : Int32) => wp_X6_put 23 μ3 v2 r5 (fun (μ8 : TMem) => wpl_X1_findByParting_2 k1 K29 n (v2 + (1 : Int32)) μ8))))
def wpl_X1_findByParting_33 (k1 : Nat) (Q : TMem → Prop) : Nat → Int32 → Int32 → TMem → Prop
  | 0, _, _, _ => False
  | n + 1, v12, v13, μ14 =>
    ((32 : Int32) ≤ v12 → (Q μ14)) ∧ (¬ (32 : Int32) ≤ v12 → ((v13 = 0 → (Q μ14)) ∧ (¬ v13 = 0 → (wp_X1_partOnce k1 μ14 (fun (r18 : Int32) (μ17 : TMem) => wpl_X1_findByParting_33 k1 Q n (v12 + (1 : Int32)) r18 μ17)))))
def wp_X1_findByParting (k1 : Nat) (μ : TMem) (Q : TMem → Prop) : Prop :=
  ∃ n0x, wpl_X1_findByParting_2 k1 (fun (μ10 : TMem) => ∃ n10x, wpl_X1_findByParting_33 k1 Q n10x (0 : Int32) (1 : Int32) μ10) n0x (0 : Int32) μ
set_option maxHeartbeats 4000000 in
set_option maxRecDepth 100000 in
theorem c_X1_findByParting {l : Launch} {D : va_G} {ad : Nat → Nat} {cI cM : ClassId} (k1 : Nat) (hk1 : kd k1 = 5) (μ : TMem) (sz : Nat)  {Q : TMem → Prop} (h : wp_X1_findByParting k1 μ Q) : TMv l yX1_findByParting (.code yX1_findByParting cX1_findByParting 4 (Option.none : Option Jvm.ClassFile.FieldType)) 3 [.ref (ad 22), .ref (ad k1)] D ad cI cM sz μ Q := by
  refine T_metv (by decide +kernel) (Nat.le_of_ble_eq_true rfl) ?_
  intro p e s m below meth c Z ls hx hb hml hown ht hN hK hw hret hl
  have hl : lv_has ls 4 [(0, .ref (ad 22)), (1, .ref (ad k1))] := hl
  generalize s.heap = H at hw ⊢
  generalize ([] : List Loc) = locs at hw ⊢
  change ∃ n0x, wpl_X1_findByParting_2 k1 (fun (μ10 : TMem) => ∃ n10x, wpl_X1_findByParting_33 k1 Q n10x (0 : Int32) (1 : Int32) μ10) n0x (0 : Int32) μ at h
  refine lv_iconst (v := (0 : Int32)) hx hb dX1_findByParting_0 (by decide) ?_
  refine lv_istore_n (lv' := [(2, .int (0 : Int32)), (0, .ref (ad 22)), (1, .ref (ad k1))]) hx hb dX1_findByParting_1 rfl hl (by decide) rfl (fun ls hl => ?_)
  obtain ⟨n9, h⟩ := h
  have L0 : ∀ (K29 : TMem → Prop), (∀ (μ3 : TMem) (H : Heap) (locs : List Loc) (ls : Array Slot), TW D ad cI cM s μ3 H locs → lv_has ls 4 [(0, .ref (ad 22)), (1, .ref (ad k1))] → K29 μ3 → W p l e (RM 3) s m #[.ref (ad 22), .ref (ad k1)] below meth c H locs 0 0 Z (F0 m 29 ls [])) → ∀ (n : Nat) (v2 : Int32) (μ3 : TMem) (H : Heap) (locs : List Loc) (ls : Array Slot), TW D ad cI cM s μ3 H locs → lv_has ls 4 [(2, .int v2), (0, .ref (ad 22)), (1, .ref (ad k1))] → wpl_X1_findByParting_2 k1 K29 n v2 μ3 → W p l e (RM 3) s m #[.ref (ad 22), .ref (ad k1)] below meth c H locs 0 0 Z (F0 m 2 ls []) := by
    intro K29 hK29
    intro n
    induction n with
    | zero => intro v2 μ3 H locs ls hw hl h; exact False.elim h
    | succ n ih0 =>
      intro v2 μ3 H locs ls hw hl h
      change ((μ3 k1 1) ≤ v2 → (K29 μ3)) ∧ (¬ (μ3 k1 1) ≤ v2 → (wp_X1_firstOfGoalness k1 μ3 v2 (fun (r5 : Int32) => wp_X6_put 23 μ3 v2 r5 (fun (μ8 : TMem) => wpl_X1_findByParting_2 k1 K29 n (v2 + (1 : Int32)) μ8)))) at h
      refine lv_iload_n hx hb dX1_findByParting_2 rfl (lv_at hl 0 rfl) ?_
      refine lv_aload_n hx hb dX1_findByParting_3 rfl (lv_at hl 2 rfl) ?_
      refine gf_X1_30 hx hb ht hown hK hw hk1 dX1_findByParting_4 ?_
      refine lv_icmp_ge (tgt := 29) hx hb dX1_findByParting_7 (by decide) (fun c4 => ?_) (fun c4 => ?_)
      · have h := h.1 c4
        exact hK29 μ3 H locs ls hw (lv_sub hl [1, 2] rfl) h
      have h := h.2 c4
      refine lv_aload_n hx hb dX1_findByParting_10 rfl (lv_at hl 1 rfl) ?_
      refine gf_X1_14 hx hb ht hown hK hw rfl dX1_findByParting_11 ?_
      refine W.eq (g2 := F0 m 14 ls [.ref (ad 23)]) rfl ?_
      refine lv_iload_n hx hb dX1_findByParting_14 rfl (lv_at hl 0 rfl) ?_
      refine lv_aload_n hx hb dX1_findByParting_15 rfl (lv_at hl 2 rfl) ?_
      refine lv_iload_n hx hb dX1_findByParting_16 rfl (lv_at hl 0 rfl) ?_
      refine T_calli hw (va_runS (own := "Leastreader$Likeness") (As := [.ref (ad k1), .int v2]) (rest := [.int v2, .ref (ad 23)]) ⟨hx, hb, hml, hown, ht⟩ (c_X1_firstOfGoalness k1 hk1 μ3 H.size v2 h) (va_cwS 2 ht (G_S q_486 q_487 q_52 q_488) rfl rfl rfl hd_20 ⟨Nat.le_of_ble_eq_true rfl, Nat.le_of_ble_eq_true rfl⟩) ⟨TB.blind, TB.pre hK hN hw⟩ rfl rfl hl.1 rfl (lv_room (Nat.le_of_ble_eq_true rfl)) dX1_findByParting_17 ⟨Nat.le_of_ble_eq_true rfl, Nat.le_of_ble_eq_true rfl⟩) (fun r5 μ6 H locs h hw => ?_)
      obtain ⟨e7, h⟩ := h
      rw [e7] at hw
      refine T_callv hw (va_runV (own := "Leastreader$Likeness") (As := [.int v2, .int r5]) (rest := []) ⟨hx, hb, hml, hown, ht⟩ (c_X6_put 23 rfl μ3 H.size v2 r5 h) (cwV 2 ht (G_V q_466 q_395 q_396 q_51 q_397) rfl rfl rfl ⟨rfl, hd_7⟩ ⟨Nat.le_of_ble_eq_true rfl, Nat.le_of_ble_eq_true rfl⟩) ⟨TB.blind, (T_recv hK hw (kd_of rfl (by decide)) (ent_6 rfl) cl_6), TB.pre hK hN hw⟩ rfl rfl hl.1 rfl (lv_room (Nat.le_of_ble_eq_true rfl)) dX1_findByParting_20 ⟨Nat.le_of_ble_eq_true rfl, Nat.le_of_ble_eq_true rfl⟩) (fun μ8 H locs h hw => ?_)
      refine lv_iinc (v := (v2 + (1 : Int32))) (lv' := [(2, .int (v2 + (1 : Int32))), (0, .ref (ad 22)), (1, .ref (ad k1))]) hx hb dX1_findByParting_23 hl (k := 0) rfl rfl (by decide) rfl (fun ls hl => ?_)
      refine lv_goto (tgt := 2) hx hb dX1_findByParting_26 (by decide) ?_
      exact ih0 (v2 + (1 : Int32)) μ8 H locs ls hw (lv_sub hl [0, 1, 2] rfl) h
  refine L0 _ ?_ n9 (0 : Int32) μ H locs ls hw (lv_sub hl [0, 1, 2] rfl) h
  intro μ10 H locs ls hw hl h
  refine lv_iconst (v := (1 : Int32)) hx hb dX1_findByParting_29 (by decide) ?_
  refine lv_istore_n (lv' := [(2, .int (1 : Int32)), (0, .ref (ad 22)), (1, .ref (ad k1))]) hx hb dX1_findByParting_30 rfl hl (by decide) rfl (fun ls hl => ?_)
  refine lv_iconst (v := (0 : Int32)) hx hb dX1_findByParting_31 (by decide) ?_
  refine lv_istore_n (lv' := [(3, .int (0 : Int32)), (2, .int (1 : Int32)), (0, .ref (ad 22)), (1, .ref (ad k1))]) hx hb dX1_findByParting_32 rfl hl (by decide) rfl (fun ls hl => ?_)
  obtain ⟨n19, h⟩ := h
  have L10 : ∀ (n : Nat) (v12 : Int32) (v13 : Int32) (μ14 : TMem) (H : Heap) (locs : List Loc) (ls : Array Slot), TW D ad cI cM s μ14 H locs → lv_has ls 4 [(3, .int v12), (2, .int v13), (0, .ref (ad 22)), (1, .ref (ad k1))] → wpl_X1_findByParting_33 k1 Q n v12 v13 μ14 → W p l e (RM 3) s m #[.ref (ad 22), .ref (ad k1)] below meth c H locs 0 0 Z (F0 m 33 ls []) := by
    intro n
    induction n with
    | zero => intro v12 v13 μ14 H locs ls hw hl h; exact False.elim h
    | succ n ih10 =>
      intro v12 v13 μ14 H locs ls hw hl h
      change ((32 : Int32) ≤ v12 → (Q μ14)) ∧ (¬ (32 : Int32) ≤ v12 → ((v13 = 0 → (Q μ14)) ∧ (¬ v13 = 0 → (wp_X1_partOnce k1 μ14 (fun (r18 : Int32) (μ17 : TMem) => wpl_X1_findByParting_33 k1 Q n (v12 + (1 : Int32)) r18 μ17))))) at h
      refine lv_iload_n hx hb dX1_findByParting_33 rfl (lv_at hl 0 rfl) ?_
      refine lv_bipush (v := (32 : Int32)) hx hb dX1_findByParting_34 (by decide) ?_
      refine lv_icmp_ge (tgt := 55) hx hb dX1_findByParting_36 (by decide) (fun c15 => ?_) (fun c15 => ?_)
      · have h := h.1 c15
        exact hret H locs ls 55 _ hw h dX1_findByParting_55
      have h := h.2 c15
      refine lv_iload_n hx hb dX1_findByParting_39 rfl (lv_at hl 1 rfl) ?_
      refine lv_if_eq (tgt := 55) hx hb dX1_findByParting_40 (by decide) (fun c16 => ?_) (fun c16 => ?_)
      · have h := h.1 c16
        exact hret H locs ls 55 _ hw h dX1_findByParting_55
      have h := h.2 c16
      refine lv_aload_n hx hb dX1_findByParting_43 rfl (lv_at hl 2 rfl) ?_
      refine lv_aload_n hx hb dX1_findByParting_44 rfl (lv_at hl 3 rfl) ?_
      refine T_calli hw (va_runV (own := "Leastreader$Likeness") (As := [.ref (ad k1)]) (rest := []) ⟨hx, hb, hml, hown, ht⟩ (c_X1_partOnce k1 hk1 μ14 H.size h) (cwV 1 ht (G_V q_489 q_491 q_8 q_52 q_492) rfl rfl rfl ⟨rfl, hd_21⟩ ⟨Nat.le_of_ble_eq_true rfl, Nat.le_of_ble_eq_true rfl⟩) ⟨TB.blind, (T_recv hK hw (kd_of rfl (by decide)) (ent_1 rfl) cl_1), TB.pre hK hN hw⟩ rfl rfl hl.1 rfl (lv_room (Nat.le_of_ble_eq_true rfl)) dX1_findByParting_45 ⟨Nat.le_of_ble_eq_true rfl, Nat.le_of_ble_eq_true rfl⟩) (fun r18 μ17 H locs h hw => ?_)
      refine lv_istore_n (lv' := [(2, .int r18), (3, .int v12), (0, .ref (ad 22)), (1, .ref (ad k1))]) hx hb dX1_findByParting_48 rfl hl (by decide) rfl (fun ls hl => ?_)
      refine lv_iinc (v := (v12 + (1 : Int32))) (lv' := [(3, .int (v12 + (1 : Int32))), (2, .int r18), (0, .ref (ad 22)), (1, .ref (ad k1))]) hx hb dX1_findByParting_49 hl (k := 1) rfl rfl (by decide) rfl (fun ls hl => ?_)
      refine lv_goto (tgt := 33) hx hb dX1_findByParting_52 (by decide) ?_
      exact ih10 (v12 + (1 : Int32)) r18 μ17 H locs ls hw (lv_sub hl [0, 1, 2, 3] rfl) h
  exact L10 n19 (0 : Int32) (1 : Int32) μ10 H locs ls hw (lv_sub hl [0, 1, 2, 3] rfl) h
end
/-! part 24.m5 -/
section
def wp_X1_partOf (μ : TMem) (a1 : Int32) (Q : Int32 → Prop) : Prop :=
  wp_X6_at 23 μ a1 (fun (r1 : Int32) => Q r1)
set_option maxHeartbeats 4000000 in
set_option maxRecDepth 100000 in
theorem c_X1_partOf {l : Launch} {D : va_G} {ad : Nat → Nat} {cI cM : ClassId}  (μ : TMem) (sz : Nat) (a1 : Int32) {Q : Int32 → Prop} (h : wp_X1_partOf μ a1 Q) : TMi l yX1_partOf (.code yX1_partOf cX1_partOf 2 (Option.some Jvm.ClassFile.FieldType.int)) 1 [.ref (ad 22), .int a1] D ad cI cM sz μ (fun r μ1 => μ1 = μ ∧ Q r) := by
  refine T_meti (by decide +kernel) (Nat.le_of_ble_eq_true rfl) ?_
  intro p e s m below meth c Z ls hx hb hml hown ht hN hK hw hret hl
  have hl : lv_has ls 2 [(0, .ref (ad 22)), (1, .int a1)] := hl
  generalize s.heap = H at hw ⊢
  generalize ([] : List Loc) = locs at hw ⊢
  change wp_X6_at 23 μ a1 (fun (r1 : Int32) => Q r1) at h
  refine lv_aload_n hx hb dX1_partOf_0 rfl (lv_at hl 0 rfl) ?_
  refine gf_X1_14 hx hb ht hown hK hw rfl dX1_partOf_1 ?_
  refine W.eq (g2 := F0 m 4 ls [.ref (ad 23)]) rfl ?_
  refine lv_iload_n hx hb dX1_partOf_4 rfl (lv_at hl 1 rfl) ?_
  refine T_calli hw (va_runV (own := "Leastreader$Likeness") (As := [.int a1]) (rest := []) ⟨hx, hb, hml, hown, ht⟩ (c_X6_at 23 rfl μ H.size a1 h) (cwV 1 ht (G_V q_471 q_399 q_400 q_51 q_401) rfl rfl rfl ⟨rfl, hd_8⟩ ⟨Nat.le_of_ble_eq_true rfl, Nat.le_of_ble_eq_true rfl⟩) ⟨TB.blind, (T_recv hK hw (kd_of rfl (by decide)) (ent_6 rfl) cl_6), TB.pre hK hN hw⟩ rfl rfl hl.1 rfl (lv_room (Nat.le_of_ble_eq_true rfl)) dX1_partOf_5 ⟨Nat.le_of_ble_eq_true rfl, Nat.le_of_ble_eq_true rfl⟩) (fun r1 μ2 H locs h hw => ?_)
  obtain ⟨e3, h⟩ := h
  rw [e3] at hw
  exact hret H locs ls 8 _ _ hw ⟨rfl, h⟩ rfl dX1_partOf_8
def wp_X3_groupNumber (k2 : Nat) (μ : TMem) (a1 : Int32) (Q : Int32 → TMem → Prop) : Prop :=
  wp_X1_partOf μ a1 (fun (r1 : Int32) => wp_X6_at 20 μ r1 (fun (r4 : Int32) => ∀ J7 : TMem → Prop, (∀ (μ8 : TMem), (wp_X6_at 20 μ8 r1 (fun (r9 : Int32) => Q r9 μ8)) → J7 μ8) → ((¬ r4 = (-1 : Int32) → (wp_X6_at 20 μ r1 (fun (r13 : Int32) => Q r13 μ))) ∧ (r4 = (-1 : Int32) → (wp_X6_put 20 μ r1 (μ k2 1) (fun (μ16 : TMem) => wp_X6_put 18 μ16 (μ16 k2 1) a1 (fun (μ17 : TMem) => J7 (tms μ17 k2 1 ((μ17 k2 1) + (1 : Int32))))))))))
set_option maxHeartbeats 4000000 in
set_option maxRecDepth 100000 in
theorem c_X3_groupNumber {l : Launch} {D : va_G} {ad : Nat → Nat} {cI cM : ClassId} (k2 : Nat) (hk2 : kd k2 = 5) (μ : TMem) (sz : Nat) (a1 : Int32) {Q : Int32 → TMem → Prop} (h : wp_X3_groupNumber k2 μ a1 Q) : TMi l yX3_groupNumber (.code yX3_groupNumber cX3_groupNumber 4 (Option.some Jvm.ClassFile.FieldType.int)) 2 [.ref (ad 15), .int a1, .ref (ad k2)] D ad cI cM sz μ Q := by
  refine T_meti (by decide +kernel) (Nat.le_of_ble_eq_true rfl) ?_
  intro p e s m below meth c Z ls hx hb hml hown ht hN hK hw hret hl
  have hl : lv_has ls 4 [(0, .ref (ad 15)), (1, .int a1), (2, .ref (ad k2))] := hl
  generalize s.heap = H at hw ⊢
  generalize ([] : List Loc) = locs at hw ⊢
  change wp_X1_partOf μ a1 (fun (r1 : Int32) => wp_X6_at 20 μ r1 (fun (r4 : Int32) => ∀ J7 : TMem → Prop, (∀ (μ8 : TMem), (wp_X6_at 20 μ8 r1 (fun (r9 : Int32) => Q r9 μ8)) → J7 μ8) → ((¬ r4 = (-1 : Int32) → (wp_X6_at 20 μ r1 (fun (r13 : Int32) => Q r13 μ))) ∧ (r4 = (-1 : Int32) → (wp_X6_put 20 μ r1 (μ k2 1) (fun (μ16 : TMem) => wp_X6_put 18 μ16 (μ16 k2 1) a1 (fun (μ17 : TMem) => J7 (tms μ17 k2 1 ((μ17 k2 1) + (1 : Int32)))))))))) at h
  refine lv_aload_n hx hb dX3_groupNumber_0 rfl (lv_at hl 0 rfl) ?_
  refine gf_X3_29 hx hb ht hown hK hw rfl dX3_groupNumber_1 ?_
  refine W.eq (g2 := F0 m 4 ls [.ref (ad 22)]) rfl ?_
  refine lv_iload_n hx hb dX3_groupNumber_4 rfl (lv_at hl 1 rfl) ?_
  refine T_calli hw (va_runV (own := "Leastreader$Maker") (As := [.int a1]) (rest := []) ⟨hx, hb, hml, hown, ht⟩ (c_X1_partOf μ H.size a1 h) (cwV 1 ht (G_V q_506 q_507 q_508 q_52 q_509) rfl rfl rfl ⟨rfl, hd_22⟩ ⟨Nat.le_of_ble_eq_true rfl, Nat.le_of_ble_eq_true rfl⟩) ⟨TB.blind, (T_recv hK hw (kd_of rfl (by decide)) (ent_1 rfl) cl_1), TB.pre hK hN hw⟩ rfl rfl hl.1 rfl (lv_room (Nat.le_of_ble_eq_true rfl)) dX3_groupNumber_5 ⟨Nat.le_of_ble_eq_true rfl, Nat.le_of_ble_eq_true rfl⟩) (fun r1 μ2 H locs h hw => ?_)
  obtain ⟨e3, h⟩ := h
  rw [e3] at hw
  refine lv_istore_n (lv' := [(3, .int r1), (0, .ref (ad 15)), (1, .int a1), (2, .ref (ad k2))]) hx hb dX3_groupNumber_8 rfl hl (by decide) rfl (fun ls hl => ?_)
  refine lv_aload_n hx hb dX3_groupNumber_9 rfl (lv_at hl 1 rfl) ?_
  refine gf_X3_23 hx hb ht hown hK hw rfl dX3_groupNumber_10 ?_
  refine W.eq (g2 := F0 m 13 ls [.ref (ad 20)]) rfl ?_
  refine lv_iload_n hx hb dX3_groupNumber_13 rfl (lv_at hl 0 rfl) ?_
  refine T_calli hw (va_runV (own := "Leastreader$Maker") (As := [.int r1]) (rest := []) ⟨hx, hb, hml, hown, ht⟩ (c_X6_at 20 rfl μ H.size r1 h) (cwV 1 ht (G_V q_398 q_399 q_400 q_51 q_401) rfl rfl rfl ⟨rfl, hd_8⟩ ⟨Nat.le_of_ble_eq_true rfl, Nat.le_of_ble_eq_true rfl⟩) ⟨TB.blind, (T_recv hK hw (kd_of rfl (by decide)) (ent_6 rfl) cl_6), TB.pre hK hN hw⟩ rfl rfl hl.1 rfl (lv_room (Nat.le_of_ble_eq_true rfl)) dX3_groupNumber_14 ⟨Nat.le_of_ble_eq_true rfl, Nat.le_of_ble_eq_true rfl⟩) (fun r4 μ5 H locs h hw => ?_)
  obtain ⟨e6, h⟩ := h
  rw [e6] at hw
  refine lv_iconst (v := (-1 : Int32)) hx hb dX3_groupNumber_17 (by decide) ?_
  have h := h (fun μ8 => ∀ (H : Heap) (locs : List Loc) (ls : Array Slot), TW D ad cI cM s μ8 H locs → lv_has ls 4 [(3, .int r1), (0, .ref (ad 15))] → W p l e (RM 2) s m #[.ref (ad 15), .int a1, .ref (ad k2)] below meth c H locs 0 0 Z (F0 m 55 ls [])) (fun μ8 h H locs ls hw hl => by
    refine lv_aload_n hx hb dX3_groupNumber_55 rfl (lv_at hl 1 rfl) ?_
    refine gf_X3_23 hx hb ht hown hK hw rfl dX3_groupNumber_56 ?_
    refine W.eq (g2 := F0 m 59 ls [.ref (ad 20)]) rfl ?_
    refine lv_iload_n hx hb dX3_groupNumber_59 rfl (lv_at hl 0 rfl) ?_
    refine T_calli hw (va_runV (own := "Leastreader$Maker") (As := [.int r1]) (rest := []) ⟨hx, hb, hml, hown, ht⟩ (c_X6_at 20 rfl μ8 H.size r1 h) (cwV 1 ht (G_V q_398 q_399 q_400 q_51 q_401) rfl rfl rfl ⟨rfl, hd_8⟩ ⟨Nat.le_of_ble_eq_true rfl, Nat.le_of_ble_eq_true rfl⟩) ⟨TB.blind, (T_recv hK hw (kd_of rfl (by decide)) (ent_6 rfl) cl_6), TB.pre hK hN hw⟩ rfl rfl hl.1 rfl (lv_room (Nat.le_of_ble_eq_true rfl)) dX3_groupNumber_60 ⟨Nat.le_of_ble_eq_true rfl, Nat.le_of_ble_eq_true rfl⟩) (fun r9 μ10 H locs h hw => ?_)
    obtain ⟨e11, h⟩ := h
    rw [e11] at hw
    exact hret H locs ls 63 _ _ hw h rfl dX3_groupNumber_63)
  refine lv_icmp_ne (tgt := 55) hx hb dX3_groupNumber_18 (by decide) (fun c12 => ?_) (fun c12 => ?_)
  · have h := h.1 c12
    refine lv_aload_n hx hb dX3_groupNumber_55 rfl (lv_at hl 1 rfl) ?_
    refine gf_X3_23 hx hb ht hown hK hw rfl dX3_groupNumber_56 ?_
    refine W.eq (g2 := F0 m 59 ls [.ref (ad 20)]) rfl ?_
    refine lv_iload_n hx hb dX3_groupNumber_59 rfl (lv_at hl 0 rfl) ?_
    refine T_calli hw (va_runV (own := "Leastreader$Maker") (As := [.int r1]) (rest := []) ⟨hx, hb, hml, hown, ht⟩ (c_X6_at 20 rfl μ H.size r1 h) (cwV 1 ht (G_V q_398 q_399 q_400 q_51 q_401) rfl rfl rfl ⟨rfl, hd_8⟩ ⟨Nat.le_of_ble_eq_true rfl, Nat.le_of_ble_eq_true rfl⟩) ⟨TB.blind, (T_recv hK hw (kd_of rfl (by decide)) (ent_6 rfl) cl_6), TB.pre hK hN hw⟩ rfl rfl hl.1 rfl (lv_room (Nat.le_of_ble_eq_true rfl)) dX3_groupNumber_60 ⟨Nat.le_of_ble_eq_true rfl, Nat.le_of_ble_eq_true rfl⟩) (fun r13 μ14 H locs h hw => ?_)
    obtain ⟨e15, h⟩ := h
    rw [e15] at hw
    exact hret H locs ls 63 _ _ hw h rfl dX3_groupNumber_63
  have h := h.2 c12
  refine lv_aload_n hx hb dX3_groupNumber_21 rfl (lv_at hl 1 rfl) ?_
  refine gf_X3_23 hx hb ht hown hK hw rfl dX3_groupNumber_22 ?_
  refine W.eq (g2 := F0 m 25 ls [.ref (ad 20)]) rfl ?_
  refine lv_iload_n hx hb dX3_groupNumber_25 rfl (lv_at hl 0 rfl) ?_
  refine lv_aload_n hx hb dX3_groupNumber_26 rfl (lv_at hl 3 rfl) ?_
  refine gf_X3_83 hx hb ht hown hK hw hk2 dX3_groupNumber_27 ?_
  refine T_callv hw (va_runV (own := "Leastreader$Maker") (As := [.int r1, .int (μ k2 1)]) (rest := []) ⟨hx, hb, hml, hown, ht⟩ (c_X6_put 20 rfl μ H.size r1 (μ k2 1) h) (cwV 2 ht (G_V q_394 q_395 q_396 q_51 q_397) rfl rfl rfl ⟨rfl, hd_7⟩ ⟨Nat.le_of_ble_eq_true rfl, Nat.le_of_ble_eq_true rfl⟩) ⟨TB.blind, (T_recv hK hw (kd_of rfl (by decide)) (ent_6 rfl) cl_6), TB.pre hK hN hw⟩ rfl rfl hl.1 rfl (lv_room (Nat.le_of_ble_eq_true rfl)) dX3_groupNumber_30 ⟨Nat.le_of_ble_eq_true rfl, Nat.le_of_ble_eq_true rfl⟩) (fun μ16 H locs h hw => ?_)
  refine lv_aload_n hx hb dX3_groupNumber_33 rfl (lv_at hl 1 rfl) ?_
  refine gf_X3_20 hx hb ht hown hK hw rfl dX3_groupNumber_34 ?_
  refine W.eq (g2 := F0 m 37 ls [.ref (ad 18)]) rfl ?_
  refine lv_aload_n hx hb dX3_groupNumber_37 rfl (lv_at hl 3 rfl) ?_
  refine gf_X3_83 hx hb ht hown hK hw hk2 dX3_groupNumber_38 ?_
  refine lv_iload_n hx hb dX3_groupNumber_41 rfl (lv_at hl 2 rfl) ?_
  refine T_callv hw (va_runV (own := "Leastreader$Maker") (As := [.int (μ16 k2 1), .int a1]) (rest := []) ⟨hx, hb, hml, hown, ht⟩ (c_X6_put 18 rfl μ16 H.size (μ16 k2 1) a1 h) (cwV 2 ht (G_V q_394 q_395 q_396 q_51 q_397) rfl rfl rfl ⟨rfl, hd_7⟩ ⟨Nat.le_of_ble_eq_true rfl, Nat.le_of_ble_eq_true rfl⟩) ⟨TB.blind, (T_recv hK hw (kd_of rfl (by decide)) (ent_6 rfl) cl_6), TB.pre hK hN hw⟩ rfl rfl hl.1 rfl (lv_room (Nat.le_of_ble_eq_true rfl)) dX3_groupNumber_42 ⟨Nat.le_of_ble_eq_true rfl, Nat.le_of_ble_eq_true rfl⟩) (fun μ17 H locs h hw => ?_)
  refine lv_aload_n hx hb dX3_groupNumber_45 rfl (lv_at hl 3 rfl) ?_
  refine lv_dup hx hb dX3_groupNumber_46 rfl ?_
  refine gf_X3_83 hx hb ht hown hK hw hk2 dX3_groupNumber_47 ?_
  refine lv_iconst (v := (1 : Int32)) hx hb dX3_groupNumber_50 (by decide) ?_
  refine lv_iadd hx hb dX3_groupNumber_51 ?_
  refine pgf_X3_83 hx hb ht hown hK hw hk2 dX3_groupNumber_52 (fun H locs hw => ?_)
  exact h H locs ls hw (lv_sub hl [0, 1] rfl)
def wpl_X3_makeGroups_90 (k1 : Nat) (k2 : Nat) (v21 : Int32) (v22 : Int32) (K122 : TMem → Prop) : Nat → Int32 → TMem → Prop
  | 0, _, _ => False
  | n + 1, v20, μ23 =>
    ((3 : Int32) ≤ v20 → (K122 μ23)) ∧ (¬ (3 : Int32) ≤ v20 → (wp_X7_at k1 μ23 v21 v20 (fun (r25 : Int32) => wp_X3_groupNumber k2 μ23 r25 (fun (r29 : Int32) (μ28 : TMem) => wp_X7_put k2 μ28 v22 v20 r29 (fun (μ30 : TMem) => wpl_X3_makeGroups_90 k1 k2 v21 v22 K122 n (v20 + (1 : Int32)) μ30)))))
def wpl_X3_makeGroups_45 (k1 : Nat) (k2 : Nat) (Q : TMem → Prop) : Nat → Int32 → TMem → Prop
  | 0, _, _ => False
  | n + 1, v8, μ9 =>
    ((32 : Int32) ≤ v8 → (Q μ9)) ∧ (¬ (32 : Int32) ≤ v8 → (((μ9 k2 1) ≤ v8 → (Q μ9)) ∧ (¬ (μ9 k2 1) ≤ v8 → (wp_X6_at 18 μ9 v8 (fun (r12 : Int32) => wp_X5_isGoal k1 μ9 r12 (fun (r15 : Int32) => wp_X9_withOrWithout (μ9 k2 2) v8 r15 (fun (r18 : Int32) => ∃ n18x, wpl_X3_makeGroups_90 k1 k2 r12 v8 (fun (μ32 : TMem) => wpl_X3_makeGroups_45 k1 k2 Q n (v8 + (1 : Int32)) μ32) n18x (0 : Int32) (tms μ9 k2 2 r18))))))))
def wp_X3_makeGroups (k1 : Nat) (k2 : Nat) (μ : TMem) (Q : TMem → Prop) : Prop :=
  wp_X6_fill 20 μ (-1 : Int32) (fun (μ1 : TMem) => wp_X1_partOf μ1 (0 : Int32) (fun (r2 : Int32) => wp_X6_put 20 μ1 r2 (0 : Int32) (fun (μ5 : TMem) => wp_X6_put 18 μ5 (0 : Int32) (0 : Int32) (fun (μ6 : TMem) => ∃ n6x, wpl_X3_makeGroups_45 k1 k2 Q n6x (0 : Int32) (tms (tms μ6 k2 1 (1 : Int32)) k2 2 (0 : Int32))))))
set_option maxHeartbeats 4000000 in
set_option maxRecDepth 100000 in
theorem c_X3_makeGroups {l : Launch} {D : va_G} {ad : Nat → Nat} {cI cM : ClassId} (k1 : Nat) (hk1 : kd k1 = 5) (k2 : Nat) (hk2 : kd k2 = 5) (μ : TMem) (sz : Nat)  {Q : TMem → Prop} (h : wp_X3_makeGroups k1 k2 μ Q) : TMv l yX3_makeGroups (.code yX3_makeGroups cX3_makeGroups 6 (Option.none : Option Jvm.ClassFile.FieldType)) 3 [.ref (ad 15), .ref (ad k1), .ref (ad k2)] D ad cI cM sz μ Q := by
  refine T_metv (by decide +kernel) (Nat.le_of_ble_eq_true rfl) ?_
  intro p e s m below meth c Z ls hx hb hml hown ht hN hK hw hret hl
  have hl : lv_has ls 6 [(0, .ref (ad 15)), (1, .ref (ad k1)), (2, .ref (ad k2))] := hl
  generalize s.heap = H at hw ⊢
  generalize ([] : List Loc) = locs at hw ⊢
  change wp_X6_fill 20 μ (-1 : Int32) (fun (μ1 : TMem) => wp_X1_partOf μ1 (0 : Int32) (fun (r2 : Int32) => wp_X6_put 20 μ1 r2 (0 : Int32) (fun (μ5 : TMem) => wp_X6_put 18 μ5 (0 : Int32) (0 : Int32) (fun (μ6 : TMem) => ∃ n6x, wpl_X3_makeGroups_45 k1 k2 Q n6x (0 : Int32) (tms (tms μ6 k2 1 (1 : Int32)) k2 2 (0 : Int32)))))) at h
  refine lv_aload_n hx hb dX3_makeGroups_0 rfl (lv_at hl 0 rfl) ?_
  refine gf_X3_23 hx hb ht hown hK hw rfl dX3_makeGroups_1 ?_
  refine W.eq (g2 := F0 m 4 ls [.ref (ad 20)]) rfl ?_
  refine lv_iconst (v := (-1 : Int32)) hx hb dX3_makeGroups_4 (by decide) ?_
  refine T_callv hw (va_runV (own := "Leastreader$Maker") (As := [.int (-1 : Int32)]) (rest := []) ⟨hx, hb, hml, hown, ht⟩ (c_X6_fill 20 rfl μ H.size (-1 : Int32) h) (cwV 1 ht (G_V q_502 q_503 q_504 q_51 q_505) rfl rfl rfl ⟨rfl, hd_13⟩ ⟨Nat.le_of_ble_eq_true rfl, Nat.le_of_ble_eq_true rfl⟩) ⟨TB.blind, (T_recv hK hw (kd_of rfl (by decide)) (ent_6 rfl) cl_6), TB.pre hK hN hw⟩ rfl rfl hl.1 rfl (lv_room (Nat.le_of_ble_eq_true rfl)) dX3_makeGroups_5 ⟨Nat.le_of_ble_eq_true rfl, Nat.le_of_ble_eq_true rfl⟩) (fun μ1 H locs h hw => ?_)
  refine lv_aload_n hx hb dX3_makeGroups_8 rfl (lv_at hl 0 rfl) ?_
  refine gf_X3_23 hx hb ht hown hK hw rfl dX3_makeGroups_9 ?_
  refine W.eq (g2 := F0 m 12 ls [.ref (ad 20)]) rfl ?_
  refine lv_aload_n hx hb dX3_makeGroups_12 rfl (lv_at hl 0 rfl) ?_
  refine gf_X3_29 hx hb ht hown hK hw rfl dX3_makeGroups_13 ?_
  refine W.eq (g2 := F0 m 16 ls [.ref (ad 22), .ref (ad 20)]) rfl ?_
  refine lv_iconst (v := (0 : Int32)) hx hb dX3_makeGroups_16 (by decide) ?_
  refine T_calli hw (va_runV (own := "Leastreader$Maker") (As := [.int (0 : Int32)]) (rest := [.ref (ad 20)]) ⟨hx, hb, hml, hown, ht⟩ (c_X1_partOf μ1 H.size (0 : Int32) h) (cwV 1 ht (G_V q_506 q_507 q_508 q_52 q_509) rfl rfl rfl ⟨rfl, hd_22⟩ ⟨Nat.le_of_ble_eq_true rfl, Nat.le_of_ble_eq_true rfl⟩) ⟨TB.blind, (T_recv hK hw (kd_of rfl (by decide)) (ent_1 rfl) cl_1), TB.pre hK hN hw⟩ rfl rfl hl.1 rfl (lv_room (Nat.le_of_ble_eq_true rfl)) dX3_makeGroups_17 ⟨Nat.le_of_ble_eq_true rfl, Nat.le_of_ble_eq_true rfl⟩) (fun r2 μ3 H locs h hw => ?_)
  obtain ⟨e4, h⟩ := h
  rw [e4] at hw
  refine lv_iconst (v := (0 : Int32)) hx hb dX3_makeGroups_20 (by decide) ?_
  refine T_callv hw (va_runV (own := "Leastreader$Maker") (As := [.int r2, .int (0 : Int32)]) (rest := []) ⟨hx, hb, hml, hown, ht⟩ (c_X6_put 20 rfl μ1 H.size r2 (0 : Int32) h) (cwV 2 ht (G_V q_394 q_395 q_396 q_51 q_397) rfl rfl rfl ⟨rfl, hd_7⟩ ⟨Nat.le_of_ble_eq_true rfl, Nat.le_of_ble_eq_true rfl⟩) ⟨TB.blind, (T_recv hK hw (kd_of rfl (by decide)) (ent_6 rfl) cl_6), TB.pre hK hN hw⟩ rfl rfl hl.1 rfl (lv_room (Nat.le_of_ble_eq_true rfl)) dX3_makeGroups_21 ⟨Nat.le_of_ble_eq_true rfl, Nat.le_of_ble_eq_true rfl⟩) (fun μ5 H locs h hw => ?_)
  refine lv_aload_n hx hb dX3_makeGroups_24 rfl (lv_at hl 0 rfl) ?_
  refine gf_X3_20 hx hb ht hown hK hw rfl dX3_makeGroups_25 ?_
  refine W.eq (g2 := F0 m 28 ls [.ref (ad 18)]) rfl ?_
  refine lv_iconst (v := (0 : Int32)) hx hb dX3_makeGroups_28 (by decide) ?_
  refine lv_iconst (v := (0 : Int32)) hx hb dX3_makeGroups_29 (by decide) ?_
  refine T_callv hw (va_runV (own := "Leastreader$Maker") (As := [.int (0 : Int32), .int (0 : Int32)]) (rest := []) ⟨hx, hb, hml, hown, ht⟩ (c_X6_put 18 rfl μ5 H.size (0 : Int32) (0 : Int32) h) (cwV 2 ht (G_V q_394 q_395 q_396 q_51 q_397) rfl rfl rfl ⟨rfl, hd_7⟩ ⟨Nat.le_of_ble_eq_true rfl, Nat.le_of_ble_eq_true rfl⟩) ⟨TB.blind, (T_recv hK hw (kd_of rfl (by decide)) (ent_6 rfl) cl_6), TB.pre hK hN hw⟩ rfl rfl hl.1 rfl (lv_room (Nat.le_of_ble_eq_true rfl)) dX3_makeGroups_30 ⟨Nat.le_of_ble_eq_true rfl, Nat.le_of_ble_eq_true rfl⟩) (fun μ6 H locs h hw => ?_)
  refine lv_aload_n hx hb dX3_makeGroups_33 rfl (lv_at hl 2 rfl) ?_
  refine lv_iconst (v := (1 : Int32)) hx hb dX3_makeGroups_34 (by decide) ?_
  refine pgf_X3_83 hx hb ht hown hK hw hk2 dX3_makeGroups_35 (fun H locs hw => ?_)
  refine lv_aload_n hx hb dX3_makeGroups_38 rfl (lv_at hl 2 rfl) ?_
  refine lv_iconst (v := (0 : Int32)) hx hb dX3_makeGroups_39 (by decide) ?_
  refine pgf_X3_86 hx hb ht hown hK hw hk2 dX3_makeGroups_40 (fun H locs hw => ?_)
  refine lv_iconst (v := (0 : Int32)) hx hb dX3_makeGroups_43 (by decide) ?_
  refine lv_istore_n (lv' := [(3, .int (0 : Int32)), (0, .ref (ad 15)), (1, .ref (ad k1)), (2, .ref (ad k2))]) hx hb dX3_makeGroups_44 rfl hl (by decide) rfl (fun ls hl => ?_)
  obtain ⟨n33, h⟩ := h
  have L6 : ∀ (n : Nat) (v8 : Int32) (μ9 : TMem) (H : Heap) (locs : List Loc) (ls : Array Slot), TW D ad cI cM s μ9 H locs → lv_has ls 6 [(3, .int v8), (0, .ref (ad 15)), (1, .ref (ad k1)), (2, .ref (ad k2))] → wpl_X3_makeGroups_45 k1 k2 Q n v8 μ9 → W p l e (RM 3) s m #[.ref (ad 15), .ref (ad k1), .ref (ad k2)] below meth c H locs 0 0 Z (F0 m 45 ls []) := by
    intro n
    induction n with
    | zero => intro v8 μ9 H locs ls hw hl h; exact False.elim h
    | succ n ih6 =>
      intro v8 μ9 H locs ls hw hl h
      change ((32 : Int32) ≤ v8 → (Q μ9)) ∧ (¬ (32 : Int32) ≤ v8 → (((μ9 k2 1) ≤ v8 → (Q μ9)) ∧ (¬ (μ9 k2 1) ≤ v8 → (wp_X6_at 18 μ9 v8 (fun (r12 : Int32) => wp_X5_isGoal k1 μ9 r12 (fun (r15 : Int32) => wp_X9_withOrWithout (μ9 k2 2) v8 r15 (fun (r18 : Int32) => ∃ n18x, wpl_X3_makeGroups_90 k1 k2 r12 v8 (fun (μ32 : TMem) => wpl_X3_makeGroups_45 k1 k2 Q n (v8 + (1 : Int32)) μ32) n18x (0 : Int32) (tms μ9 k2 2 r18)))))))) at h
      refine lv_iload_n hx hb dX3_makeGroups_45 rfl (lv_at hl 0 rfl) ?_
      refine lv_bipush (v := (32 : Int32)) hx hb dX3_makeGroups_46 (by decide) ?_
      refine lv_icmp_ge (tgt := 128) hx hb dX3_makeGroups_48 (by decide) (fun c10 => ?_) (fun c10 => ?_)
      · have h := h.1 c10
        exact hret H locs ls 128 _ hw h dX3_makeGroups_128
      have h := h.2 c10
      refine lv_iload_n hx hb dX3_makeGroups_51 rfl (lv_at hl 0 rfl) ?_
      refine lv_aload_n hx hb dX3_makeGroups_52 rfl (lv_at hl 3 rfl) ?_
      refine gf_X3_83 hx hb ht hown hK hw hk2 dX3_makeGroups_53 ?_
      refine lv_icmp_ge (tgt := 128) hx hb dX3_makeGroups_56 (by decide) (fun c11 => ?_) (fun c11 => ?_)
      · have h := h.1 c11
        exact hret H locs ls 128 _ hw h dX3_makeGroups_128
      have h := h.2 c11
      refine lv_aload_n hx hb dX3_makeGroups_59 rfl (lv_at hl 1 rfl) ?_
      refine gf_X3_20 hx hb ht hown hK hw rfl dX3_makeGroups_60 ?_
      refine W.eq (g2 := F0 m 63 ls [.ref (ad 18)]) rfl ?_
      refine lv_iload_n hx hb dX3_makeGroups_63 rfl (lv_at hl 0 rfl) ?_
      refine T_calli hw (va_runV (own := "Leastreader$Maker") (As := [.int v8]) (rest := []) ⟨hx, hb, hml, hown, ht⟩ (c_X6_at 18 rfl μ9 H.size v8 h) (cwV 1 ht (G_V q_398 q_399 q_400 q_51 q_401) rfl rfl rfl ⟨rfl, hd_8⟩ ⟨Nat.le_of_ble_eq_true rfl, Nat.le_of_ble_eq_true rfl⟩) ⟨TB.blind, (T_recv hK hw (kd_of rfl (by decide)) (ent_6 rfl) cl_6), TB.pre hK hN hw⟩ rfl rfl hl.1 rfl (lv_room (Nat.le_of_ble_eq_true rfl)) dX3_makeGroups_64 ⟨Nat.le_of_ble_eq_true rfl, Nat.le_of_ble_eq_true rfl⟩) (fun r12 μ13 H locs h hw => ?_)
      obtain ⟨e14, h⟩ := h
      rw [e14] at hw
      refine lv_istore (lv' := [(4, .int r12), (3, .int v8), (0, .ref (ad 15)), (1, .ref (ad k1)), (2, .ref (ad k2))]) hx hb dX3_makeGroups_67 hl (by decide) rfl (fun ls hl => ?_)
      refine lv_aload_n hx hb dX3_makeGroups_69 rfl (lv_at hl 4 rfl) ?_
      refine lv_aload_n hx hb dX3_makeGroups_70 rfl (lv_at hl 4 rfl) ?_
      refine gf_X3_86 hx hb ht hown hK hw hk2 dX3_makeGroups_71 ?_
      refine lv_iload_n hx hb dX3_makeGroups_74 rfl (lv_at hl 1 rfl) ?_
      refine lv_aload_n hx hb dX3_makeGroups_75 rfl (lv_at hl 3 rfl) ?_
      refine lv_iload hx hb dX3_makeGroups_76 (lv_at hl 0 rfl) ?_
      refine T_calli hw (va_runV (own := "Leastreader$Maker") (As := [.int r12]) (rest := [.int v8, .int (μ9 k2 2), .ref (ad k2)]) ⟨hx, hb, hml, hown, ht⟩ (c_X5_isGoal k1 hk1 μ9 H.size r12 h) (cwV 1 ht (G_V q_510 q_462 q_463 q_53 q_464) rfl rfl rfl ⟨rfl, hd_18⟩ ⟨Nat.le_of_ble_eq_true rfl, Nat.le_of_ble_eq_true rfl⟩) ⟨TB.blind, (T_recv hK hw (kd_of hk1 (by decide)) (ent_5 hk1) cl_5), TB.pre hK hN hw⟩ rfl rfl hl.1 rfl (lv_room (Nat.le_of_ble_eq_true rfl)) dX3_makeGroups_78 ⟨Nat.le_of_ble_eq_true rfl, Nat.le_of_ble_eq_true rfl⟩) (fun r15 μ16 H locs h hw => ?_)
      obtain ⟨e17, h⟩ := h
      rw [e17] at hw
      refine P_calli (va_runSN (own := "Leastreader$Maker") (As := [.int (μ9 k2 2), .int v8, .int r15]) (rest := [.ref (ad k2)]) ⟨hx, hb, hml, hown, ht⟩ (c_X9_withOrWithout (μ9 k2 2) v8 r15 h) ⟨va_cnB 3 ht (G_ws q_404) rfl rfl rfl (nw_402 hN) (ht _ q_46) hd_9 ⟨Nat.le_of_ble_eq_true rfl, Nat.le_of_ble_eq_true rfl⟩, ht _ q_403, trivial⟩ ⟨PM_blind, PM_pre⟩ rfl rfl hl.1 rfl (lv_room (Nat.le_of_ble_eq_true rfl)) dX3_makeGroups_81 ⟨Nat.le_of_ble_eq_true rfl, Nat.le_of_ble_eq_true rfl⟩) (fun r18 h => ?_)
      refine pgf_X3_86 hx hb ht hown hK hw hk2 dX3_makeGroups_84 (fun H locs hw => ?_)
      refine lv_iconst (v := (0 : Int32)) hx hb dX3_makeGroups_87 (by decide) ?_
      refine lv_istore (lv' := [(5, .int (0 : Int32)), (4, .int r12), (3, .int v8), (0, .ref (ad 15)), (1, .ref (ad k1)), (2, .ref (ad k2))]) hx hb dX3_makeGroups_88 hl (by decide) rfl (fun ls hl => ?_)
      obtain ⟨n31, h⟩ := h
      have L18 : ∀ (v21 : Int32) (v22 : Int32) (K122 : TMem → Prop), (∀ (μ23 : TMem) (H : Heap) (locs : List Loc) (ls : Array Slot), TW D ad cI cM s μ23 H locs → lv_has ls 6 [(3, .int v22), (0, .ref (ad 15)), (1, .ref (ad k1)), (2, .ref (ad k2))] → K122 μ23 → W p l e (RM 3) s m #[.ref (ad 15), .ref (ad k1), .ref (ad k2)] below meth c H locs 0 0 Z (F0 m 122 ls [])) → ∀ (n : Nat) (v20 : Int32) (μ23 : TMem) (H : Heap) (locs : List Loc) (ls : Array Slot), TW D ad cI cM s μ23 H locs → lv_has ls 6 [(5, .int v20), (4, .int v21), (3, .int v22), (0, .ref (ad 15)), (1, .ref (ad k1)), (2, .ref (ad k2))] → wpl_X3_makeGroups_90 k1 k2 v21 v22 K122 n v20 μ23 → W p l e (RM 3) s m #[.ref (ad 15), .ref (ad k1), .ref (ad k2)] below meth c H locs 0 0 Z (F0 m 90 ls []) := by
        intro v21 v22 K122 hK122
        intro n
        induction n with
        | zero => intro v20 μ23 H locs ls hw hl h; exact False.elim h
        | succ n ih18 =>
          intro v20 μ23 H locs ls hw hl h
          change ((3 : Int32) ≤ v20 → (K122 μ23)) ∧ (¬ (3 : Int32) ≤ v20 → (wp_X7_at k1 μ23 v21 v20 (fun (r25 : Int32) => wp_X3_groupNumber k2 μ23 r25 (fun (r29 : Int32) (μ28 : TMem) => wp_X7_put k2 μ28 v22 v20 r29 (fun (μ30 : TMem) => wpl_X3_makeGroups_90 k1 k2 v21 v22 K122 n (v20 + (1 : Int32)) μ30))))) at h
          refine lv_iload hx hb dX3_makeGroups_90 (lv_at hl 0 rfl) ?_
          refine lv_iconst (v := (3 : Int32)) hx hb dX3_makeGroups_92 (by decide) ?_
          refine lv_icmp_ge (tgt := 122) hx hb dX3_makeGroups_93 (by decide) (fun c24 => ?_) (fun c24 => ?_)
          · have h := h.1 c24
            exact hK122 μ23 H locs ls hw (lv_sub hl [2, 3, 4, 5] rfl) h
          have h := h.2 c24
          refine lv_aload_n hx hb dX3_makeGroups_96 rfl (lv_at hl 5 rfl) ?_
          refine lv_iload_n hx hb dX3_makeGroups_97 rfl (lv_at hl 2 rfl) ?_
          refine lv_iload hx hb dX3_makeGroups_98 (lv_at hl 0 rfl) ?_
          refine lv_aload_n hx hb dX3_makeGroups_100 rfl (lv_at hl 3 rfl) ?_
          refine lv_aload_n hx hb dX3_makeGroups_101 rfl (lv_at hl 4 rfl) ?_
          refine lv_iload hx hb dX3_makeGroups_102 (lv_at hl 1 rfl) ?_
          refine lv_iload hx hb dX3_makeGroups_104 (lv_at hl 0 rfl) ?_
          refine T_calli hw (va_runU (own := "Leastreader$Maker") (As := [.int v21, .int v20]) (rest := [.ref (ad 15), .int v20, .int v22, .ref (ad k2)]) ⟨hx, hb, hml, hown, ht⟩ (c_X7_at_5 k1 hk1 μ23 H.size v21 v20 h) (va_cwU (owner := "Leastreader$Table") 2 ht (G_U q_511 q_452 q_453 q_416 q_47 q_417) rfl rfl rfl rfl hd_0 ⟨Nat.le_of_ble_eq_true rfl, Nat.le_of_ble_eq_true rfl⟩) ⟨TB.blind, (T_recv hK hw (kd_of hk1 (by decide)) (ent_5 hk1) cl_5), TB.pre hK hN hw⟩ rfl rfl hl.1 rfl (lv_room (Nat.le_of_ble_eq_true rfl)) dX3_makeGroups_106 ⟨Nat.le_of_ble_eq_true rfl, Nat.le_of_ble_eq_true rfl⟩) (fun r25 μ26 H locs h hw => ?_)
          obtain ⟨e27, h⟩ := h
          rw [e27] at hw
          refine lv_aload_n hx hb dX3_makeGroups_109 rfl (lv_at hl 5 rfl) ?_
          refine T_calli hw (va_runV (own := "Leastreader$Maker") (As := [.int r25, .ref (ad k2)]) (rest := [.int v20, .int v22, .ref (ad k2)]) ⟨hx, hb, hml, hown, ht⟩ (c_X3_groupNumber k2 hk2 μ23 H.size r25 h) (cwV 2 ht (G_V q_512 q_514 q_11 q_50 q_515) rfl rfl rfl ⟨rfl, hd_23⟩ ⟨Nat.le_of_ble_eq_true rfl, Nat.le_of_ble_eq_true rfl⟩) ⟨TB.blind, (T_recv hK hw (kd_of rfl (by decide)) (ent_3 rfl) cl_3), TB.pre hK hN hw⟩ rfl rfl hl.1 rfl (lv_room (Nat.le_of_ble_eq_true rfl)) dX3_makeGroups_110 ⟨Nat.le_of_ble_eq_true rfl, Nat.le_of_ble_eq_true rfl⟩) (fun r29 μ28 H locs h hw => ?_)
          refine T_callv hw (va_runU (own := "Leastreader$Maker") (As := [.int v22, .int v20, .int r29]) (rest := []) ⟨hx, hb, hml, hown, ht⟩ (c_X7_put_5 k2 hk2 μ28 H.size v22 v20 r29 h) (va_cwU (owner := "Leastreader$Table") 3 ht (G_U q_426 q_427 q_429 q_430 q_47 q_431) rfl rfl rfl rfl hd_1 ⟨Nat.le_of_ble_eq_true rfl, Nat.le_of_ble_eq_true rfl⟩) ⟨TB.blind, (T_recv hK hw (kd_of hk2 (by decide)) (ent_5 hk2) cl_5), TB.pre hK hN hw⟩ rfl rfl hl.1 rfl (lv_room (Nat.le_of_ble_eq_true rfl)) dX3_makeGroups_113 ⟨Nat.le_of_ble_eq_true rfl, Nat.le_of_ble_eq_true rfl⟩) (fun μ30 H locs h hw => ?_)
          refine lv_iinc (v := (v20 + (1 : Int32))) (lv' := [(5, .int (v20 + (1 : Int32))), (4, .int v21), (3, .int v22), (0, .ref (ad 15)), (1, .ref (ad k1)), (2, .ref (ad k2))]) hx hb dX3_makeGroups_116 hl (k := 0) rfl rfl (by decide) rfl (fun ls hl => ?_)
          refine lv_goto (tgt := 90) hx hb dX3_makeGroups_119 (by decide) ?_
          exact ih18 (v20 + (1 : Int32)) μ30 H locs ls hw (lv_sub hl [0, 1, 2, 3, 4, 5] rfl) h
      refine L18 r12 v8 _ ?_ n31 (0 : Int32) (tms μ9 k2 2 r18) H locs ls hw (lv_sub hl [0, 1, 2, 3, 4, 5] rfl) h
      intro μ32 H locs ls hw hl h
      refine lv_iinc (v := (v8 + (1 : Int32))) (lv' := [(3, .int (v8 + (1 : Int32))), (0, .ref (ad 15)), (1, .ref (ad k1)), (2, .ref (ad k2))]) hx hb dX3_makeGroups_122 hl (k := 0) rfl rfl (by decide) rfl (fun ls hl => ?_)
      refine lv_goto (tgt := 45) hx hb dX3_makeGroups_125 (by decide) ?_
      exact ih6 (v8 + (1 : Int32)) μ32 H locs ls hw (lv_sub hl [0, 1, 2, 3] rfl) h
  exact L6 n33 (0 : Int32) (tms (tms μ6 k2 1 (1 : Int32)) k2 2 (0 : Int32)) H locs ls hw (lv_sub hl [0, 1, 2, 3] rfl) h
def wp_X3_lessen (k1 : Nat) (k2 : Nat) (μ : TMem) (Q : TMem → Prop) : Prop :=
  wp_X1_findByParting k1 μ (fun (μ1 : TMem) => wp_X3_makeGroups k1 k2 μ1 (fun (μ2 : TMem) => Q μ2))
set_option maxHeartbeats 4000000 in
set_option maxRecDepth 100000 in
theorem c_X3_lessen {l : Launch} {D : va_G} {ad : Nat → Nat} {cI cM : ClassId} (k1 : Nat) (hk1 : kd k1 = 5) (k2 : Nat) (hk2 : kd k2 = 5) (μ : TMem) (sz : Nat)  {Q : TMem → Prop} (h : wp_X3_lessen k1 k2 μ Q) : TMv l yX3_lessen (.code yX3_lessen cX3_lessen 3 (Option.none : Option Jvm.ClassFile.FieldType)) 4 [.ref (ad 15), .ref (ad k1), .ref (ad k2)] D ad cI cM sz μ Q := by
  refine T_metv (by decide +kernel) (Nat.le_of_ble_eq_true rfl) ?_
  intro p e s m below meth c Z ls hx hb hml hown ht hN hK hw hret hl
  have hl : lv_has ls 3 [(0, .ref (ad 15)), (1, .ref (ad k1)), (2, .ref (ad k2))] := hl
  generalize s.heap = H at hw ⊢
  generalize ([] : List Loc) = locs at hw ⊢
  change wp_X1_findByParting k1 μ (fun (μ1 : TMem) => wp_X3_makeGroups k1 k2 μ1 (fun (μ2 : TMem) => Q μ2)) at h
  refine lv_aload_n hx hb dX3_lessen_0 rfl (lv_at hl 0 rfl) ?_
  refine gf_X3_29 hx hb ht hown hK hw rfl dX3_lessen_1 ?_
  refine W.eq (g2 := F0 m 4 ls [.ref (ad 22)]) rfl ?_
  refine lv_aload_n hx hb dX3_lessen_4 rfl (lv_at hl 1 rfl) ?_
  refine T_callv hw (va_runV (own := "Leastreader$Maker") (As := [.ref (ad k1)]) (rest := []) ⟨hx, hb, hml, hown, ht⟩ (c_X1_findByParting k1 hk1 μ H.size h) (cwV 1 ht (G_V q_482 q_483 q_484 q_52 q_485) rfl rfl rfl ⟨rfl, hd_24⟩ ⟨Nat.le_of_ble_eq_true rfl, Nat.le_of_ble_eq_true rfl⟩) ⟨TB.blind, (T_recv hK hw (kd_of rfl (by decide)) (ent_1 rfl) cl_1), TB.pre hK hN hw⟩ rfl rfl hl.1 rfl (lv_room (Nat.le_of_ble_eq_true rfl)) dX3_lessen_5 ⟨Nat.le_of_ble_eq_true rfl, Nat.le_of_ble_eq_true rfl⟩) (fun μ1 H locs h hw => ?_)
  refine lv_aload_n hx hb dX3_lessen_8 rfl (lv_at hl 0 rfl) ?_
  refine lv_aload_n hx hb dX3_lessen_9 rfl (lv_at hl 1 rfl) ?_
  refine lv_aload_n hx hb dX3_lessen_10 rfl (lv_at hl 2 rfl) ?_
  refine T_callv hw (va_runV (own := "Leastreader$Maker") (As := [.ref (ad k1), .ref (ad k2)]) (rest := []) ⟨hx, hb, hml, hown, ht⟩ (c_X3_makeGroups k1 hk1 k2 hk2 μ1 H.size h) (cwV 2 ht (G_V q_498 q_500 q_10 q_50 q_501) rfl rfl rfl ⟨rfl, hd_25⟩ ⟨Nat.le_of_ble_eq_true rfl, Nat.le_of_ble_eq_true rfl⟩) ⟨TB.blind, (T_recv hK hw (kd_of rfl (by decide)) (ent_3 rfl) cl_3), TB.pre hK hN hw⟩ rfl rfl hl.1 rfl (lv_room (Nat.le_of_ble_eq_true rfl)) dX3_lessen_11 ⟨Nat.le_of_ble_eq_true rfl, Nat.le_of_ble_eq_true rfl⟩) (fun μ2 H locs h hw => ?_)
  exact hret H locs ls 14 _ hw h dX3_lessen_14
def wp_X9_putTogether (k1 : Nat) (k2 : Nat) (μ : TMem) (a3 : Int32) (Q : Int32 → TMem → Prop) : Prop :=
  wp_X9_meetPairs k1 k2 μ (32 : Int32) (1 : Int32) (fun (r2 : Int32) (μ1 : TMem) => (¬ r2 = 0 → (wp_X5_becomePairs 55 μ1 a3 (fun (μ4 : TMem) => wp_X3_lessen 55 57 μ4 (fun (μ5 : TMem) => Q (1 : Int32) μ5)))) ∧ (r2 = 0 → (Q (0 : Int32) μ1)))
set_option maxHeartbeats 4000000 in
set_option maxRecDepth 100000 in
theorem c_X9_putTogether {l : Launch} {D : va_G} {ad : Nat → Nat} {cI cM : ClassId} (k1 : Nat) (hk1 : kd k1 = 2) (k2 : Nat) (hk2 : kd k2 = 2) (μ : TMem) (sz : Nat) (a3 : Int32) {Q : Int32 → TMem → Prop} (h : wp_X9_putTogether k1 k2 μ a3 Q) : TMi l yX9_putTogether (.code yX9_putTogether cX9_putTogether 4 (Option.some Jvm.ClassFile.FieldType.boolean)) 5 [.ref (ad 0), .ref (ad k1), .ref (ad k2), .int a3] D ad cI cM sz μ Q := by
  refine T_meti (by decide +kernel) (Nat.le_of_ble_eq_true rfl) ?_
  intro p e s m below meth c Z ls hx hb hml hown ht hN hK hw hret hl
  have hl : lv_has ls 4 [(0, .ref (ad 0)), (1, .ref (ad k1)), (2, .ref (ad k2)), (3, .int a3)] := hl
  generalize s.heap = H at hw ⊢
  generalize ([] : List Loc) = locs at hw ⊢
  change wp_X9_meetPairs k1 k2 μ (32 : Int32) (1 : Int32) (fun (r2 : Int32) (μ1 : TMem) => (¬ r2 = 0 → (wp_X5_becomePairs 55 μ1 a3 (fun (μ4 : TMem) => wp_X3_lessen 55 57 μ4 (fun (μ5 : TMem) => Q (1 : Int32) μ5)))) ∧ (r2 = 0 → (Q (0 : Int32) μ1))) at h
  refine lv_aload_n hx hb dX9_putTogether_0 rfl (lv_at hl 0 rfl) ?_
  refine lv_aload_n hx hb dX9_putTogether_1 rfl (lv_at hl 1 rfl) ?_
  refine lv_aload_n hx hb dX9_putTogether_2 rfl (lv_at hl 2 rfl) ?_
  refine lv_bipush (v := (32 : Int32)) hx hb dX9_putTogether_3 (by decide) ?_
  refine lv_iconst (v := (1 : Int32)) hx hb dX9_putTogether_5 (by decide) ?_
  refine T_calli hw (va_runV (own := "Leastreader") (As := [.ref (ad k1), .ref (ad k2), .int (32 : Int32), .int (1 : Int32)]) (rest := []) ⟨hx, hb, hml, hown, ht⟩ (c_X9_meetPairs k1 hk1 k2 hk2 μ H.size (32 : Int32) (1 : Int32) h) (cwV 4 ht (G_V q_784 q_786 q_19 q_46 q_787) rfl rfl rfl ⟨rfl, hd_26⟩ ⟨Nat.le_of_ble_eq_true rfl, Nat.le_of_ble_eq_true rfl⟩) ⟨TB.blind, (T_recv hK hw (kd_of rfl (by decide)) (ent_8 rfl) cl_8), TB.pre hK hN hw⟩ rfl rfl hl.1 rfl (lv_room (Nat.le_of_ble_eq_true rfl)) dX9_putTogether_6 ⟨Nat.le_of_ble_eq_true rfl, Nat.le_of_ble_eq_true rfl⟩) (fun r2 μ1 H locs h hw => ?_)
  refine lv_if_ne (tgt := 14) hx hb dX9_putTogether_9 (by decide) (fun c3 => ?_) (fun c3 => ?_)
  · have h := h.1 c3
    refine lv_aload_n hx hb dX9_putTogether_14 rfl (lv_at hl 0 rfl) ?_
    refine gf_X9_63 hx hb ht hown hK hw rfl dX9_putTogether_15 ?_
    refine lv_aload_n hx hb dX9_putTogether_18 rfl (lv_at hl 0 rfl) ?_
    refine gf_X9_42 hx hb ht hown hK hw rfl dX9_putTogether_19 ?_
    refine lv_iload_n hx hb dX9_putTogether_22 rfl (lv_at hl 3 rfl) ?_
    refine T_callv hw (va_runV (own := "Leastreader") (As := [.ref (ad 35), .int a3]) (rest := []) ⟨hx, hb, hml, hown, ht⟩ (c_X5_becomePairs 55 rfl μ1 H.size a3 h) (cwV 2 ht (G_V q_806 q_807 q_808 q_53 q_809) rfl rfl rfl ⟨rfl, hd_27⟩ ⟨Nat.le_of_ble_eq_true rfl, Nat.le_of_ble_eq_true rfl⟩) ⟨TB.blind, (T_recv hK hw (kd_of rfl (by decide)) (ent_5 rfl) cl_5), TB.pre hK hN hw⟩ rfl rfl hl.1 rfl (lv_room (Nat.le_of_ble_eq_true rfl)) dX9_putTogether_23 ⟨Nat.le_of_ble_eq_true rfl, Nat.le_of_ble_eq_true rfl⟩) (fun μ4 H locs h hw => ?_)
    refine lv_aload_n hx hb dX9_putTogether_26 rfl (lv_at hl 0 rfl) ?_
    refine gf_X9_35 hx hb ht hown hK hw rfl dX9_putTogether_27 ?_
    refine lv_aload_n hx hb dX9_putTogether_30 rfl (lv_at hl 0 rfl) ?_
    refine gf_X9_63 hx hb ht hown hK hw rfl dX9_putTogether_31 ?_
    refine lv_aload_n hx hb dX9_putTogether_34 rfl (lv_at hl 0 rfl) ?_
    refine gf_X9_66 hx hb ht hown hK hw rfl dX9_putTogether_35 ?_
    refine T_callv hw (va_runV (own := "Leastreader") (As := [.ref (ad 55), .ref (ad 57)]) (rest := []) ⟨hx, hb, hml, hown, ht⟩ (c_X3_lessen 55 rfl 57 rfl μ4 H.size h) (cwV 2 ht (G_V q_817 q_818 q_819 q_50 q_820) rfl rfl rfl ⟨rfl, hd_28⟩ ⟨Nat.le_of_ble_eq_true rfl, Nat.le_of_ble_eq_true rfl⟩) ⟨TB.blind, (T_recv hK hw (kd_of rfl (by decide)) (ent_3 rfl) cl_3), TB.pre hK hN hw⟩ rfl rfl hl.1 rfl (lv_room (Nat.le_of_ble_eq_true rfl)) dX9_putTogether_38 ⟨Nat.le_of_ble_eq_true rfl, Nat.le_of_ble_eq_true rfl⟩) (fun μ5 H locs h hw => ?_)
    refine lv_iconst (v := (1 : Int32)) hx hb dX9_putTogether_41 (by decide) ?_
    exact hret H locs ls 42 _ _ hw h rfl dX9_putTogether_42
  have h := h.2 c3
  refine lv_iconst (v := (0 : Int32)) hx hb dX9_putTogether_12 (by decide) ?_
  exact hret H locs ls 13 _ _ hw h rfl dX9_putTogether_13
def wpl_X5_stateAfter_8 (k0 : Nat) (μ : TMem) (v5 : Int32) (Q : Int32 → Prop) : Nat → Int32 → Int32 → Int32 → Prop
  | 0, _, _, _ => False
  | n + 1, v2, v3, v4 =>
    (v5 ≤ v2 → (Q v4)) ∧ (¬ v5 ≤ v2 → (wp_X7_at k0 μ v4 (v3 - v3 / (3 : Int32) * (3 : Int32)) (fun (r7 : Int32) => wpl_X5_stateAfter_8 k0 μ v5 Q n (v2 + (1 : Int32)) (v3 / (3 : Int32)) r7)))
def wp_X5_stateAfter (k0 : Nat) (μ : TMem) (a1 : Int32) (a2 : Int32) (Q : Int32 → Prop) : Prop :=
  ∃ n0x, wpl_X5_stateAfter_8 k0 μ a1 Q n0x (0 : Int32) a2 (0 : Int32)
set_option maxHeartbeats 4000000 in
set_option maxRecDepth 100000 in
theorem c_X5_stateAfter {l : Launch} {D : va_G} {ad : Nat → Nat} {cI cM : ClassId} (k0 : Nat) (hk0 : kd k0 = 5) (μ : TMem) (sz : Nat) (a1 : Int32) (a2 : Int32) {Q : Int32 → Prop} (h : wp_X5_stateAfter k0 μ a1 a2 Q) : TMi l yX5_stateAfter (.code yX5_stateAfter cX5_stateAfter 6 (Option.some Jvm.ClassFile.FieldType.int)) 1 [.ref (ad k0), .int a1, .int a2] D ad cI cM sz μ (fun r μ1 => μ1 = μ ∧ Q r) := by
  refine T_meti (by decide +kernel) (Nat.le_of_ble_eq_true rfl) ?_
  intro p e s m below meth c Z ls hx hb hml hown ht hN hK hw hret hl
  have hl : lv_has ls 6 [(0, .ref (ad k0)), (1, .int a1), (2, .int a2)] := hl
  generalize s.heap = H at hw ⊢
  generalize ([] : List Loc) = locs at hw ⊢
  change ∃ n0x, wpl_X5_stateAfter_8 k0 μ a1 Q n0x (0 : Int32) a2 (0 : Int32) at h
  refine lv_iconst (v := (0 : Int32)) hx hb dX5_stateAfter_0 (by decide) ?_
  refine lv_istore_n (lv' := [(3, .int (0 : Int32)), (0, .ref (ad k0)), (1, .int a1), (2, .int a2)]) hx hb dX5_stateAfter_1 rfl hl (by decide) rfl (fun ls hl => ?_)
  refine lv_iload_n hx hb dX5_stateAfter_2 rfl (lv_at hl 3 rfl) ?_
  refine lv_istore (lv' := [(4, .int a2), (3, .int (0 : Int32)), (0, .ref (ad k0)), (1, .int a1), (2, .int a2)]) hx hb dX5_stateAfter_3 hl (by decide) rfl (fun ls hl => ?_)
  refine lv_iconst (v := (0 : Int32)) hx hb dX5_stateAfter_5 (by decide) ?_
  refine lv_istore (lv' := [(5, .int (0 : Int32)), (4, .int a2), (3, .int (0 : Int32)), (0, .ref (ad k0)), (1, .int a1), (2, .int a2)]) hx hb dX5_stateAfter_6 hl (by decide) rfl (fun ls hl => ?_)
  obtain ⟨n10, h⟩ := h
  have L0 : ∀ (v5 : Int32), ∀ (n : Nat) (v2 : Int32) (v3 : Int32) (v4 : Int32) (H : Heap) (locs : List Loc) (ls : Array Slot), TW D ad cI cM s μ H locs → lv_has ls 6 [(5, .int v2), (4, .int v3), (3, .int v4), (0, .ref (ad k0)), (1, .int v5)] → wpl_X5_stateAfter_8 k0 μ v5 Q n v2 v3 v4 → W p l e (RM 1) s m #[.ref (ad k0), .int a1, .int a2] below meth c H locs 0 0 Z (F0 m 8 ls []) := by
    intro v5
    intro n
    induction n with
    | zero => intro v2 v3 v4 H locs ls hw hl h; exact False.elim h
    | succ n ih0 =>
      intro v2 v3 v4 H locs ls hw hl h
      change (v5 ≤ v2 → (Q v4)) ∧ (¬ v5 ≤ v2 → (wp_X7_at k0 μ v4 (v3 - v3 / (3 : Int32) * (3 : Int32)) (fun (r7 : Int32) => wpl_X5_stateAfter_8 k0 μ v5 Q n (v2 + (1 : Int32)) (v3 / (3 : Int32)) r7))) at h
      refine lv_iload hx hb dX5_stateAfter_8 (lv_at hl 0 rfl) ?_
      refine lv_iload_n hx hb dX5_stateAfter_10 rfl (lv_at hl 4 rfl) ?_
      refine lv_icmp_ge (tgt := 36) hx hb dX5_stateAfter_11 (by decide) (fun c6 => ?_) (fun c6 => ?_)
      · have h := h.1 c6
        refine lv_iload_n hx hb dX5_stateAfter_36 rfl (lv_at hl 2 rfl) ?_
        exact hret H locs ls 37 _ _ hw ⟨rfl, h⟩ rfl dX5_stateAfter_37
      have h := h.2 c6
      refine lv_aload_n hx hb dX5_stateAfter_14 rfl (lv_at hl 3 rfl) ?_
      refine lv_iload_n hx hb dX5_stateAfter_15 rfl (lv_at hl 2 rfl) ?_
      refine lv_iload hx hb dX5_stateAfter_16 (lv_at hl 1 rfl) ?_
      refine lv_iconst (v := (3 : Int32)) hx hb dX5_stateAfter_18 (by decide) ?_
      refine lv_irem hx hb dX5_stateAfter_19 (by decide) ?_
      refine T_calli hw (va_runU (own := "Leastreader$Plain") (As := [.int v4, .int (v3 - v3 / (3 : Int32) * (3 : Int32))]) (rest := []) ⟨hx, hb, hml, hown, ht⟩ (c_X7_at_5 k0 hk0 μ H.size v4 (v3 - v3 / (3 : Int32) * (3 : Int32)) h) (va_cwU (owner := "Leastreader$Table") 2 ht (G_U q_539 q_452 q_453 q_416 q_47 q_417) rfl rfl rfl rfl hd_0 ⟨Nat.le_of_ble_eq_true rfl, Nat.le_of_ble_eq_true rfl⟩) ⟨TB.blind, (T_recv hK hw (kd_of hk0 (by decide)) (ent_5 hk0) cl_5), TB.pre hK hN hw⟩ rfl rfl hl.1 rfl (lv_room (Nat.le_of_ble_eq_true rfl)) dX5_stateAfter_20 ⟨Nat.le_of_ble_eq_true rfl, Nat.le_of_ble_eq_true rfl⟩) (fun r7 μ8 H locs h hw => ?_)
      obtain ⟨e9, h⟩ := h
      rw [e9] at hw
      refine lv_istore_n (lv' := [(3, .int r7), (5, .int v2), (4, .int v3), (0, .ref (ad k0)), (1, .int v5)]) hx hb dX5_stateAfter_23 rfl hl (by decide) rfl (fun ls hl => ?_)
      refine lv_iload hx hb dX5_stateAfter_24 (lv_at hl 2 rfl) ?_
      refine lv_iconst (v := (3 : Int32)) hx hb dX5_stateAfter_26 (by decide) ?_
      refine lv_idiv hx hb dX5_stateAfter_27 (by decide) ?_
      refine lv_istore (lv' := [(4, .int (v3 / (3 : Int32))), (3, .int r7), (5, .int v2), (0, .ref (ad k0)), (1, .int v5)]) hx hb dX5_stateAfter_28 hl (by decide) rfl (fun ls hl => ?_)
      refine lv_iinc (v := (v2 + (1 : Int32))) (lv' := [(5, .int (v2 + (1 : Int32))), (4, .int (v3 / (3 : Int32))), (3, .int r7), (0, .ref (ad k0)), (1, .int v5)]) hx hb dX5_stateAfter_30 hl (k := 2) rfl rfl (by decide) rfl (fun ls hl => ?_)
      refine lv_goto (tgt := 8) hx hb dX5_stateAfter_33 (by decide) ?_
      exact ih0 (v2 + (1 : Int32)) (v3 / (3 : Int32)) r7 H locs ls hw (lv_sub hl [0, 1, 2, 3, 4] rfl) h
  exact L0 a1 n10 (0 : Int32) a2 (0 : Int32) H locs ls hw (lv_sub hl [0, 1, 2, 3, 4] rfl) h
def wpl_X2_statesAfter_11 (k0 : Nat) (μ : TMem) (v5 : Int32) (Q : Int32 → Prop) : Nat → Int32 → Int32 → Int32 → Prop
  | 0, _, _, _ => False
  | n + 1, v2, v3, v4 =>
    (v5 ≤ v2 → (Q v4)) ∧ (¬ v5 ≤ v2 → (wp_X2_reach k0 μ v4 (v3 - v3 / (3 : Int32) * (3 : Int32)) (fun (r7 : Int32) => wpl_X2_statesAfter_11 k0 μ v5 Q n (v2 + (1 : Int32)) (v3 / (3 : Int32)) r7)))
def wp_X2_statesAfter (k0 : Nat) (μ : TMem) (a1 : Int32) (a2 : Int32) (Q : Int32 → Prop) : Prop :=
  ∃ n0x, wpl_X2_statesAfter_11 k0 μ a1 Q n0x (0 : Int32) a2 (μ k0 3)
set_option maxHeartbeats 4000000 in
set_option maxRecDepth 100000 in
theorem c_X2_statesAfter {l : Launch} {D : va_G} {ad : Nat → Nat} {cI cM : ClassId} (k0 : Nat) (hk0 : kd k0 = 2) (μ : TMem) (sz : Nat) (a1 : Int32) (a2 : Int32) {Q : Int32 → Prop} (h : wp_X2_statesAfter k0 μ a1 a2 Q) : TMi l yX2_statesAfter (.code yX2_statesAfter cX2_statesAfter 6 (Option.some Jvm.ClassFile.FieldType.int)) 2 [.ref (ad k0), .int a1, .int a2] D ad cI cM sz μ (fun r μ1 => μ1 = μ ∧ Q r) := by
  refine T_meti (by decide +kernel) (Nat.le_of_ble_eq_true rfl) ?_
  intro p e s m below meth c Z ls hx hb hml hown ht hN hK hw hret hl
  have hl : lv_has ls 6 [(0, .ref (ad k0)), (1, .int a1), (2, .int a2)] := hl
  generalize s.heap = H at hw ⊢
  generalize ([] : List Loc) = locs at hw ⊢
  change ∃ n0x, wpl_X2_statesAfter_11 k0 μ a1 Q n0x (0 : Int32) a2 (μ k0 3) at h
  refine lv_aload_n hx hb dX2_statesAfter_0 rfl (lv_at hl 0 rfl) ?_
  refine gf_X2_9 hx hb ht hown hK hw hk0 dX2_statesAfter_1 ?_
  refine lv_istore_n (lv' := [(3, .int (μ k0 3)), (0, .ref (ad k0)), (1, .int a1), (2, .int a2)]) hx hb dX2_statesAfter_4 rfl hl (by decide) rfl (fun ls hl => ?_)
  refine lv_iload_n hx hb dX2_statesAfter_5 rfl (lv_at hl 3 rfl) ?_
  refine lv_istore (lv' := [(4, .int a2), (3, .int (μ k0 3)), (0, .ref (ad k0)), (1, .int a1), (2, .int a2)]) hx hb dX2_statesAfter_6 hl (by decide) rfl (fun ls hl => ?_)
  refine lv_iconst (v := (0 : Int32)) hx hb dX2_statesAfter_8 (by decide) ?_
  refine lv_istore (lv' := [(5, .int (0 : Int32)), (4, .int a2), (3, .int (μ k0 3)), (0, .ref (ad k0)), (1, .int a1), (2, .int a2)]) hx hb dX2_statesAfter_9 hl (by decide) rfl (fun ls hl => ?_)
  obtain ⟨n10, h⟩ := h
  have L0 : ∀ (v5 : Int32), ∀ (n : Nat) (v2 : Int32) (v3 : Int32) (v4 : Int32) (H : Heap) (locs : List Loc) (ls : Array Slot), TW D ad cI cM s μ H locs → lv_has ls 6 [(5, .int v2), (4, .int v3), (3, .int v4), (0, .ref (ad k0)), (1, .int v5)] → wpl_X2_statesAfter_11 k0 μ v5 Q n v2 v3 v4 → W p l e (RM 2) s m #[.ref (ad k0), .int a1, .int a2] below meth c H locs 0 0 Z (F0 m 11 ls []) := by
    intro v5
    intro n
    induction n with
    | zero => intro v2 v3 v4 H locs ls hw hl h; exact False.elim h
    | succ n ih0 =>
      intro v2 v3 v4 H locs ls hw hl h
      change (v5 ≤ v2 → (Q v4)) ∧ (¬ v5 ≤ v2 → (wp_X2_reach k0 μ v4 (v3 - v3 / (3 : Int32) * (3 : Int32)) (fun (r7 : Int32) => wpl_X2_statesAfter_11 k0 μ v5 Q n (v2 + (1 : Int32)) (v3 / (3 : Int32)) r7))) at h
      refine lv_iload hx hb dX2_statesAfter_11 (lv_at hl 0 rfl) ?_
      refine lv_iload_n hx hb dX2_statesAfter_13 rfl (lv_at hl 4 rfl) ?_
      refine lv_icmp_ge (tgt := 39) hx hb dX2_statesAfter_14 (by decide) (fun c6 => ?_) (fun c6 => ?_)
      · have h := h.1 c6
        refine lv_iload_n hx hb dX2_statesAfter_39 rfl (lv_at hl 2 rfl) ?_
        exact hret H locs ls 40 _ _ hw ⟨rfl, h⟩ rfl dX2_statesAfter_40
      have h := h.2 c6
      refine lv_aload_n hx hb dX2_statesAfter_17 rfl (lv_at hl 3 rfl) ?_
      refine lv_iload_n hx hb dX2_statesAfter_18 rfl (lv_at hl 2 rfl) ?_
      refine lv_iload hx hb dX2_statesAfter_19 (lv_at hl 1 rfl) ?_
      refine lv_iconst (v := (3 : Int32)) hx hb dX2_statesAfter_21 (by decide) ?_
      refine lv_irem hx hb dX2_statesAfter_22 (by decide) ?_
      refine T_calli hw (va_runV (own := "Leastreader$Machine") (As := [.int v4, .int (v3 - v3 / (3 : Int32) * (3 : Int32))]) (rest := []) ⟨hx, hb, hml, hown, ht⟩ (c_X2_reach k0 hk0 μ H.size v4 (v3 - v3 / (3 : Int32) * (3 : Int32)) h) (cwV 2 ht (G_V q_549 q_406 q_407 q_48 q_408) rfl rfl rfl ⟨rfl, hd_10⟩ ⟨Nat.le_of_ble_eq_true rfl, Nat.le_of_ble_eq_true rfl⟩) ⟨TB.blind, (T_recv hK hw (kd_of hk0 (by decide)) (ent_2 hk0) cl_2), TB.pre hK hN hw⟩ rfl rfl hl.1 rfl (lv_room (Nat.le_of_ble_eq_true rfl)) dX2_statesAfter_23 ⟨Nat.le_of_ble_eq_true rfl, Nat.le_of_ble_eq_true rfl⟩) (fun r7 μ8 H locs h hw => ?_)
      obtain ⟨e9, h⟩ := h
      rw [e9] at hw
      refine lv_istore_n (lv' := [(3, .int r7), (5, .int v2), (4, .int v3), (0, .ref (ad k0)), (1, .int v5)]) hx hb dX2_statesAfter_26 rfl hl (by decide) rfl (fun ls hl => ?_)
      refine lv_iload hx hb dX2_statesAfter_27 (lv_at hl 2 rfl) ?_
      refine lv_iconst (v := (3 : Int32)) hx hb dX2_statesAfter_29 (by decide) ?_
      refine lv_idiv hx hb dX2_statesAfter_30 (by decide) ?_
      refine lv_istore (lv' := [(4, .int (v3 / (3 : Int32))), (3, .int r7), (5, .int v2), (0, .ref (ad k0)), (1, .int v5)]) hx hb dX2_statesAfter_31 hl (by decide) rfl (fun ls hl => ?_)
      refine lv_iinc (v := (v2 + (1 : Int32))) (lv' := [(5, .int (v2 + (1 : Int32))), (4, .int (v3 / (3 : Int32))), (3, .int r7), (0, .ref (ad k0)), (1, .int v5)]) hx hb dX2_statesAfter_33 hl (k := 2) rfl rfl (by decide) rfl (fun ls hl => ?_)
      refine lv_goto (tgt := 11) hx hb dX2_statesAfter_36 (by decide) ?_
      exact ih0 (v2 + (1 : Int32)) (v3 / (3 : Int32)) r7 H locs ls hw (lv_sub hl [0, 1, 2, 3, 4] rfl) h
  exact L0 a1 n10 (0 : Int32) a2 (μ k0 3) H locs ls hw (lv_sub hl [0, 1, 2, 3, 4] rfl) h
def wp_X2_isTaking (k0 : Nat) (μ : TMem) (a1 : Int32) (a2 : Int32) (Q : Int32 → Prop) : Prop :=
  wp_X2_statesAfter k0 μ a1 a2 (fun (r1 : Int32) => ((r1 &&& (μ k0 2)) = 0 → (Q (0 : Int32))) ∧ (¬ (r1 &&& (μ k0 2)) = 0 → (Q (1 : Int32))))
set_option maxHeartbeats 4000000 in
set_option maxRecDepth 100000 in
theorem c_X2_isTaking {l : Launch} {D : va_G} {ad : Nat → Nat} {cI cM : ClassId} (k0 : Nat) (hk0 : kd k0 = 2) (μ : TMem) (sz : Nat) (a1 : Int32) (a2 : Int32) {Q : Int32 → Prop} (h : wp_X2_isTaking k0 μ a1 a2 Q) : TMi l yX2_isTaking (.code yX2_isTaking cX2_isTaking 3 (Option.some Jvm.ClassFile.FieldType.boolean)) 3 [.ref (ad k0), .int a1, .int a2] D ad cI cM sz μ (fun r μ1 => μ1 = μ ∧ Q r) := by
  refine T_meti (by decide +kernel) (Nat.le_of_ble_eq_true rfl) ?_
  intro p e s m below meth c Z ls hx hb hml hown ht hN hK hw hret hl
  have hl : lv_has ls 3 [(0, .ref (ad k0)), (1, .int a1), (2, .int a2)] := hl
  generalize s.heap = H at hw ⊢
  generalize ([] : List Loc) = locs at hw ⊢
  change wp_X2_statesAfter k0 μ a1 a2 (fun (r1 : Int32) => ((r1 &&& (μ k0 2)) = 0 → (Q (0 : Int32))) ∧ (¬ (r1 &&& (μ k0 2)) = 0 → (Q (1 : Int32)))) at h
  refine lv_aload_n hx hb dX2_isTaking_0 rfl (lv_at hl 0 rfl) ?_
  refine lv_iload_n hx hb dX2_isTaking_1 rfl (lv_at hl 1 rfl) ?_
  refine lv_iload_n hx hb dX2_isTaking_2 rfl (lv_at hl 2 rfl) ?_
  refine T_calli hw (va_runV (own := "Leastreader$Machine") (As := [.int a1, .int a2]) (rest := []) ⟨hx, hb, hml, hown, ht⟩ (c_X2_statesAfter k0 hk0 μ H.size a1 a2 h) (cwV 2 ht (G_V q_545 q_546 q_547 q_48 q_548) rfl rfl rfl ⟨rfl, hd_29⟩ ⟨Nat.le_of_ble_eq_true rfl, Nat.le_of_ble_eq_true rfl⟩) ⟨TB.blind, (T_recv hK hw (kd_of hk0 (by decide)) (ent_2 hk0) cl_2), TB.pre hK hN hw⟩ rfl rfl hl.1 rfl (lv_room (Nat.le_of_ble_eq_true rfl)) dX2_isTaking_3 ⟨Nat.le_of_ble_eq_true rfl, Nat.le_of_ble_eq_true rfl⟩) (fun r1 μ2 H locs h hw => ?_)
  obtain ⟨e3, h⟩ := h
  rw [e3] at hw
  refine lv_aload_n hx hb dX2_isTaking_6 rfl (lv_at hl 0 rfl) ?_
  refine gf_X2_18 hx hb ht hown hK hw hk0 dX2_isTaking_7 ?_
  refine lv_iand hx hb dX2_isTaking_10 ?_
  refine lv_if_eq (tgt := 18) hx hb dX2_isTaking_11 (by decide) (fun c4 => ?_) (fun c4 => ?_)
  · have h := h.1 c4
    refine lv_iconst (v := (0 : Int32)) hx hb dX2_isTaking_18 (by decide) ?_
    exact hret H locs ls 19 _ _ hw ⟨rfl, h⟩ rfl dX2_isTaking_19
  have h := h.2 c4
  refine lv_iconst (v := (1 : Int32)) hx hb dX2_isTaking_14 (by decide) ?_
  refine lv_goto (tgt := 19) hx hb dX2_isTaking_15 (by decide) ?_
  exact hret H locs ls 19 _ _ hw ⟨rfl, h⟩ rfl dX2_isTaking_19
end
/-! part 25.m6 -/
section
def wpl_X9_isTakingTheSame_15 (k1 : Nat) (μ : TMem) (v7 : Int32) (v8 : Int32) (K56 : Prop) (Q : Int32 → Prop) : Nat → Int32 → Prop
  | 0, _ => False
  | n + 1, v6 =>
    (v7 ≤ v6 → (K56)) ∧ (¬ v7 ≤ v6 → (wp_X5_stateAfter 57 μ v8 v6 (fun (r10 : Int32) => wp_X5_isGoal 57 μ r10 (fun (r13 : Int32) => wp_X2_isTaking k1 μ v8 v6 (fun (r16 : Int32) => (r13 = r16 → (wpl_X9_isTakingTheSame_15 k1 μ v7 v8 K56 Q n (v6 + (1 : Int32)))) ∧ (¬ r13 = r16 → (Q (0 : Int32))))))))
def wpl_X9_isTakingTheSame_2 (k1 : Nat) (μ : TMem) (Q : Int32 → Prop) : Nat → Int32 → Prop
  | 0, _ => False
  | n + 1, v2 =>
    ((2 : Int32) < v2 → (Q (1 : Int32))) ∧ (¬ (2 : Int32) < v2 → (wp_X9_countCodes v2 (fun (r4 : Int32) => ∃ n4x, wpl_X9_isTakingTheSame_15 k1 μ r4 v2 (wpl_X9_isTakingTheSame_2 k1 μ Q n (v2 + (1 : Int32))) Q n4x (0 : Int32))))
def wp_X9_isTakingTheSame (k1 : Nat) (μ : TMem) (Q : Int32 → Prop) : Prop :=
  ∃ n0x, wpl_X9_isTakingTheSame_2 k1 μ Q n0x (0 : Int32)
set_option maxHeartbeats 4000000 in
set_option maxRecDepth 100000 in
theorem c_X9_isTakingTheSame {l : Launch} {D : va_G} {ad : Nat → Nat} {cI cM : ClassId} (k1 : Nat) (hk1 : kd k1 = 2) (μ : TMem) (sz : Nat)  {Q : Int32 → Prop} (h : wp_X9_isTakingTheSame k1 μ Q) : TMi l yX9_isTakingTheSame (.code yX9_isTakingTheSame cX9_isTakingTheSame 5 (Option.some Jvm.ClassFile.FieldType.boolean)) 4 [.ref (ad 0), .ref (ad k1)] D ad cI cM sz μ (fun r μ1 => μ1 = μ ∧ Q r) := by
  refine T_meti (by decide +kernel) (Nat.le_of_ble_eq_true rfl) ?_
  intro p e s m below meth c Z ls hx hb hml hown ht hN hK hw hret hl
  have hl : lv_has ls 5 [(0, .ref (ad 0)), (1, .ref (ad k1))] := hl
  generalize s.heap = H at hw ⊢
  generalize ([] : List Loc) = locs at hw ⊢
  change ∃ n0x, wpl_X9_isTakingTheSame_2 k1 μ Q n0x (0 : Int32) at h
  refine lv_iconst (v := (0 : Int32)) hx hb dX9_isTakingTheSame_0 (by decide) ?_
  refine lv_istore_n (lv' := [(2, .int (0 : Int32)), (0, .ref (ad 0)), (1, .ref (ad k1))]) hx hb dX9_isTakingTheSame_1 rfl hl (by decide) rfl (fun ls hl => ?_)
  obtain ⟨n21, h⟩ := h
  have L0 : ∀ (n : Nat) (v2 : Int32) (H : Heap) (locs : List Loc) (ls : Array Slot), TW D ad cI cM s μ H locs → lv_has ls 5 [(2, .int v2), (0, .ref (ad 0)), (1, .ref (ad k1))] → wpl_X9_isTakingTheSame_2 k1 μ Q n v2 → W p l e (RM 4) s m #[.ref (ad 0), .ref (ad k1)] below meth c H locs 0 0 Z (F0 m 2 ls []) := by
    intro n
    induction n with
    | zero => intro v2 H locs ls hw hl h; exact False.elim h
    | succ n ih0 =>
      intro v2 H locs ls hw hl h
      change ((2 : Int32) < v2 → (Q (1 : Int32))) ∧ (¬ (2 : Int32) < v2 → (wp_X9_countCodes v2 (fun (r4 : Int32) => ∃ n4x, wpl_X9_isTakingTheSame_15 k1 μ r4 v2 (wpl_X9_isTakingTheSame_2 k1 μ Q n (v2 + (1 : Int32))) Q n4x (0 : Int32)))) at h
      refine lv_iload_n hx hb dX9_isTakingTheSame_2 rfl (lv_at hl 0 rfl) ?_
      refine lv_iconst (v := (2 : Int32)) hx hb dX9_isTakingTheSame_3 (by decide) ?_
      refine lv_icmp_gt (tgt := 62) hx hb dX9_isTakingTheSame_4 (by decide) (fun c3 => ?_) (fun c3 => ?_)
      · have h := h.1 c3
        refine lv_iconst (v := (1 : Int32)) hx hb dX9_isTakingTheSame_62 (by decide) ?_
        exact hret H locs ls 63 _ _ hw ⟨rfl, h⟩ rfl dX9_isTakingTheSame_63
      have h := h.2 c3
      refine lv_iload_n hx hb dX9_isTakingTheSame_7 rfl (lv_at hl 0 rfl) ?_
      refine P_calli (va_runS (own := "Leastreader") (As := [.int v2]) (rest := []) ⟨hx, hb, hml, hown, ht⟩ (c_X9_countCodes v2 h) (va_cwS 1 ht (G_S q_532 q_533 q_46 q_534) rfl rfl rfl hd_30 ⟨Nat.le_of_ble_eq_true rfl, Nat.le_of_ble_eq_true rfl⟩) ⟨PM_blind, PM_pre⟩ rfl rfl hl.1 rfl (lv_room (Nat.le_of_ble_eq_true rfl)) dX9_isTakingTheSame_8 ⟨Nat.le_of_ble_eq_true rfl, Nat.le_of_ble_eq_true rfl⟩) (fun r4 h => ?_)
      refine lv_istore_n (lv' := [(3, .int r4), (2, .int v2), (0, .ref (ad 0)), (1, .ref (ad k1))]) hx hb dX9_isTakingTheSame_11 rfl hl (by decide) rfl (fun ls hl => ?_)
      refine lv_iconst (v := (0 : Int32)) hx hb dX9_isTakingTheSame_12 (by decide) ?_
      refine lv_istore (lv' := [(4, .int (0 : Int32)), (3, .int r4), (2, .int v2), (0, .ref (ad 0)), (1, .ref (ad k1))]) hx hb dX9_isTakingTheSame_13 hl (by decide) rfl (fun ls hl => ?_)
      obtain ⟨n20, h⟩ := h
      have L4 : ∀ (v7 : Int32) (v8 : Int32) (K56 : Prop), (∀ (H : Heap) (locs : List Loc) (ls : Array Slot), TW D ad cI cM s μ H locs → lv_has ls 5 [(2, .int v8), (0, .ref (ad 0)), (1, .ref (ad k1))] → K56 → W p l e (RM 4) s m #[.ref (ad 0), .ref (ad k1)] below meth c H locs 0 0 Z (F0 m 56 ls [])) → ∀ (n : Nat) (v6 : Int32) (H : Heap) (locs : List Loc) (ls : Array Slot), TW D ad cI cM s μ H locs → lv_has ls 5 [(4, .int v6), (3, .int v7), (2, .int v8), (0, .ref (ad 0)), (1, .ref (ad k1))] → wpl_X9_isTakingTheSame_15 k1 μ v7 v8 K56 Q n v6 → W p l e (RM 4) s m #[.ref (ad 0), .ref (ad k1)] below meth c H locs 0 0 Z (F0 m 15 ls []) := by
        intro v7 v8 K56 hK56
        intro n
        induction n with
        | zero => intro v6 H locs ls hw hl h; exact False.elim h
        | succ n ih4 =>
          intro v6 H locs ls hw hl h
          change (v7 ≤ v6 → (K56)) ∧ (¬ v7 ≤ v6 → (wp_X5_stateAfter 57 μ v8 v6 (fun (r10 : Int32) => wp_X5_isGoal 57 μ r10 (fun (r13 : Int32) => wp_X2_isTaking k1 μ v8 v6 (fun (r16 : Int32) => (r13 = r16 → (wpl_X9_isTakingTheSame_15 k1 μ v7 v8 K56 Q n (v6 + (1 : Int32)))) ∧ (¬ r13 = r16 → (Q (0 : Int32)))))))) at h
          refine lv_iload hx hb dX9_isTakingTheSame_15 (lv_at hl 0 rfl) ?_
          refine lv_iload_n hx hb dX9_isTakingTheSame_17 rfl (lv_at hl 1 rfl) ?_
          refine lv_icmp_ge (tgt := 56) hx hb dX9_isTakingTheSame_18 (by decide) (fun c9 => ?_) (fun c9 => ?_)
          · have h := h.1 c9
            exact hK56 H locs ls hw (lv_sub hl [2, 3, 4] rfl) h
          have h := h.2 c9
          refine lv_aload_n hx hb dX9_isTakingTheSame_21 rfl (lv_at hl 3 rfl) ?_
          refine gf_X9_66 hx hb ht hown hK hw rfl dX9_isTakingTheSame_22 ?_
          refine lv_aload_n hx hb dX9_isTakingTheSame_25 rfl (lv_at hl 3 rfl) ?_
          refine gf_X9_66 hx hb ht hown hK hw rfl dX9_isTakingTheSame_26 ?_
          refine lv_iload_n hx hb dX9_isTakingTheSame_29 rfl (lv_at hl 2 rfl) ?_
          refine lv_iload hx hb dX9_isTakingTheSame_30 (lv_at hl 0 rfl) ?_
          refine T_calli hw (va_runV (own := "Leastreader") (As := [.int v8, .int v6]) (rest := [.ref (ad 57)]) ⟨hx, hb, hml, hown, ht⟩ (c_X5_stateAfter 57 rfl μ H.size v8 v6 h) (cwV 2 ht (G_V q_535 q_536 q_537 q_53 q_538) rfl rfl rfl ⟨rfl, hd_31⟩ ⟨Nat.le_of_ble_eq_true rfl, Nat.le_of_ble_eq_true rfl⟩) ⟨TB.blind, (T_recv hK hw (kd_of rfl (by decide)) (ent_5 rfl) cl_5), TB.pre hK hN hw⟩ rfl rfl hl.1 rfl (lv_room (Nat.le_of_ble_eq_true rfl)) dX9_isTakingTheSame_32 ⟨Nat.le_of_ble_eq_true rfl, Nat.le_of_ble_eq_true rfl⟩) (fun r10 μ11 H locs h hw => ?_)
          obtain ⟨e12, h⟩ := h
          rw [e12] at hw
          refine T_calli hw (va_runV (own := "Leastreader") (As := [.int r10]) (rest := []) ⟨hx, hb, hml, hown, ht⟩ (c_X5_isGoal 57 rfl μ H.size r10 h) (cwV 1 ht (G_V q_540 q_462 q_463 q_53 q_464) rfl rfl rfl ⟨rfl, hd_18⟩ ⟨Nat.le_of_ble_eq_true rfl, Nat.le_of_ble_eq_true rfl⟩) ⟨TB.blind, (T_recv hK hw (kd_of rfl (by decide)) (ent_5 rfl) cl_5), TB.pre hK hN hw⟩ rfl rfl hl.1 rfl (lv_room (Nat.le_of_ble_eq_true rfl)) dX9_isTakingTheSame_35 ⟨Nat.le_of_ble_eq_true rfl, Nat.le_of_ble_eq_true rfl⟩) (fun r13 μ14 H locs h hw => ?_)
          obtain ⟨e15, h⟩ := h
          rw [e15] at hw
          refine lv_aload_n hx hb dX9_isTakingTheSame_38 rfl (lv_at hl 4 rfl) ?_
          refine lv_iload_n hx hb dX9_isTakingTheSame_39 rfl (lv_at hl 2 rfl) ?_
          refine lv_iload hx hb dX9_isTakingTheSame_40 (lv_at hl 0 rfl) ?_
          refine T_calli hw (va_runV (own := "Leastreader") (As := [.int v8, .int v6]) (rest := [.int r13]) ⟨hx, hb, hml, hown, ht⟩ (c_X2_isTaking k1 hk1 μ H.size v8 v6 h) (cwV 2 ht (G_V q_541 q_542 q_543 q_48 q_544) rfl rfl rfl ⟨rfl, hd_32⟩ ⟨Nat.le_of_ble_eq_true rfl, Nat.le_of_ble_eq_true rfl⟩) ⟨TB.blind, (T_recv hK hw (kd_of hk1 (by decide)) (ent_2 hk1) cl_2), TB.pre hK hN hw⟩ rfl rfl hl.1 rfl (lv_room (Nat.le_of_ble_eq_true rfl)) dX9_isTakingTheSame_42 ⟨Nat.le_of_ble_eq_true rfl, Nat.le_of_ble_eq_true rfl⟩) (fun r16 μ17 H locs h hw => ?_)
          obtain ⟨e18, h⟩ := h
          rw [e18] at hw
          refine lv_icmp_eq (tgt := 50) hx hb dX9_isTakingTheSame_45 (by decide) (fun c19 => ?_) (fun c19 => ?_)
          · have h := h.1 c19
            refine lv_iinc (v := (v6 + (1 : Int32))) (lv' := [(4, .int (v6 + (1 : Int32))), (3, .int v7), (2, .int v8), (0, .ref (ad 0)), (1, .ref (ad k1))]) hx hb dX9_isTakingTheSame_50 hl (k := 0) rfl rfl (by decide) rfl (fun ls hl => ?_)
            refine lv_goto (tgt := 15) hx hb dX9_isTakingTheSame_53 (by decide) ?_
            exact ih4 (v6 + (1 : Int32)) H locs ls hw (lv_sub hl [0, 1, 2, 3, 4] rfl) h
          have h := h.2 c19
          refine lv_iconst (v := (0 : Int32)) hx hb dX9_isTakingTheSame_48 (by decide) ?_
          exact hret H locs ls 49 _ _ hw ⟨rfl, h⟩ rfl dX9_isTakingTheSame_49
      refine L4 r4 v2 _ ?_ n20 (0 : Int32) H locs ls hw (lv_sub hl [0, 1, 2, 3, 4] rfl) h
      intro H locs ls hw hl h
      refine lv_iinc (v := (v2 + (1 : Int32))) (lv' := [(2, .int (v2 + (1 : Int32))), (0, .ref (ad 0)), (1, .ref (ad k1))]) hx hb dX9_isTakingTheSame_56 hl (k := 0) rfl rfl (by decide) rfl (fun ls hl => ?_)
      refine lv_goto (tgt := 2) hx hb dX9_isTakingTheSame_59 (by decide) ?_
      exact ih0 (v2 + (1 : Int32)) H locs ls hw (lv_sub hl [0, 1, 2] rfl) h
  exact L0 n21 (0 : Int32) H locs ls hw (lv_sub hl [0, 1, 2] rfl) h
def wp_J6_bitCount_0f7a4 (a0 : Int32) (Q : Int32 → Prop) : Prop :=
  Q ((((((((a0 - ((a0.toUInt32 >>> ((1 : Int32).toUInt32 &&& Int32.toUInt32 31)).toInt32 &&& (1431655765 : Int32))) &&& (858993459 : Int32)) + (((a0 - ((a0.toUInt32 >>> ((1 : Int32).toUInt32 &&& Int32.toUInt32 31)).toInt32 &&& (1431655765 : Int32))).toUInt32 >>> ((2 : Int32).toUInt32 &&& Int32.toUInt32 31)).toInt32 &&& (858993459 : Int32))) + ((((a0 - ((a0.toUInt32 >>> ((1 : Int32).toUInt32 &&& Int32.toUInt32 31)).toInt32 &&& (1431655765 : Int32))) &&& (858993459 : Int32)) + (((a0 - ((a0.toUInt32 >>> ((1 : Int32).toUInt32 &&& Int32.toUInt32 31)).toInt32 &&& (1431655765 : Int32))).toUInt32 >>> ((2 : Int32).toUInt32 &&& Int32.toUInt32 31)).toInt32 &&& (858993459 : Int32))).toUInt32 >>> ((4 : Int32).toUInt32 &&& Int32.toUInt32 31)).toInt32) &&& (252645135 : Int32)) + ((((((a0 - ((a0.toUInt32 >>> ((1 : Int32).toUInt32 &&& Int32.toUInt32 31)).toInt32 &&& (1431655765 : Int32))) &&& (858993459 : Int32)) + (((a0 - ((a0.toUInt32 >>> ((1 : Int32).toUInt32 &&& Int32.toUInt32 31)).toInt32 &&& (1431655765 : Int32))).toUInt32 >>> ((2 : Int32).toUInt32 &&& Int32.toUInt32 31)).toInt32 &&& (858993459 : Int32))) + ((((a0 - ((a0.toUInt32 >>> ((1 : Int32).toUInt32 &&& Int32.toUInt32 31)).toInt32 &&& (1431655765 : Int32))) &&& (858993459 : Int32)) + (((a0 - ((a0.toUInt32 >>> ((1 : Int32).toUInt32 &&& Int32.toUInt32 31)).toInt32 &&& (1431655765 : Int32))).toUInt32 >>> ((2 : Int32).toUInt32 &&& Int32.toUInt32 31)).toInt32 &&& (858993459 : Int32))).toUInt32 >>> ((4 : Int32).toUInt32 &&& Int32.toUInt32 31)).toInt32) &&& (252645135 : Int32)).toUInt32 >>> ((8 : Int32).toUInt32 &&& Int32.toUInt32 31)).toInt32) + (((((((a0 - ((a0.toUInt32 >>> ((1 : Int32).toUInt32 &&& Int32.toUInt32 31)).toInt32 &&& (1431655765 : Int32))) &&& (858993459 : Int32)) + (((a0 - ((a0.toUInt32 >>> ((1 : Int32).toUInt32 &&& Int32.toUInt32 31)).toInt32 &&& (1431655765 : Int32))).toUInt32 >>> ((2 : Int32).toUInt32 &&& Int32.toUInt32 31)).toInt32 &&& (858993459 : Int32))) + ((((a0 - ((a0.toUInt32 >>> ((1 : Int32).toUInt32 &&& Int32.toUInt32 31)).toInt32 &&& (1431655765 : Int32))) &&& (858993459 : Int32)) + (((a0 - ((a0.toUInt32 >>> ((1 : Int32).toUInt32 &&& Int32.toUInt32 31)).toInt32 &&& (1431655765 : Int32))).toUInt32 >>> ((2 : Int32).toUInt32 &&& Int32.toUInt32 31)).toInt32 &&& (858993459 : Int32))).toUInt32 >>> ((4 : Int32).toUInt32 &&& Int32.toUInt32 31)).toInt32) &&& (252645135 : Int32)) + ((((((a0 - ((a0.toUInt32 >>> ((1 : Int32).toUInt32 &&& Int32.toUInt32 31)).toInt32 &&& (1431655765 : Int32))) &&& (858993459 : Int32)) + (((a0 - ((a0.toUInt32 >>> ((1 : Int32).toUInt32 &&& Int32.toUInt32 31)).toInt32 &&& (1431655765 : Int32))).toUInt32 >>> ((2 : Int32).toUInt32 &&& Int32.toUInt32 31)).toInt32 &&& (858993459 : Int32))) + ((((a0 - ((a0.toUInt32 >>> ((1 : Int32).toUInt32 &&& Int32.toUInt32 31)).toInt32 &&& (1431655765 : Int32))) &&& (858993459 : Int32)) + (((a0 - ((a0.toUInt32 >>> ((1 : Int32).toUInt32 &&& Int32.toUInt32 31)).toInt32 &&& (1431655765 : Int32))).toUInt32 >>> ((2 : Int32).toUInt32 &&& Int32.toUInt32 31)).toInt32 &&& (858993459 : Int32))).toUInt32 >>> ((4 : Int32).toUInt32 &&& Int32.toUInt32 31)).toInt32) &&& (252645135 : Int32)).toUInt32 >>> ((8 : Int32).toUInt32 &&& Int32.toUInt32 31)).toInt32).toUInt32 >>> ((16 : Int32).toUInt32 &&& Int32.toUInt32 31)).toInt32) &&& (63 : Int32))
set_option maxHeartbeats 4000000 in
set_option maxRecDepth 100000 in
theorem c_J6_bitCount_0f7a4 {l : Launch} (a0 : Int32) {Q : Int32 → Prop} (h : wp_J6_bitCount_0f7a4 a0 Q) : PMi l yJ6_bitCount_0f7a4 (.code yJ6_bitCount_0f7a4 cJ6_bitCount_0f7a4 1 (Option.some Jvm.ClassFile.FieldType.int)) 0 [.int a0] Q := by
  refine P_meti (by decide +kernel) (Nat.le_of_ble_eq_true rfl) ?_
  intro p e s m below meth c Z ls hx hb hml hown ht hret hl
  have hl : lv_has ls 1 [(0, .int a0)] := hl
  change Q ((((((((a0 - ((a0.toUInt32 >>> ((1 : Int32).toUInt32 &&& Int32.toUInt32 31)).toInt32 &&& (1431655765 : Int32))) &&& (858993459 : Int32)) + (((a0 - ((a0.toUInt32 >>> ((1 : Int32).toUInt32 &&& Int32.toUInt32 31)).toInt32 &&& (1431655765 : Int32))).toUInt32 >>> ((2 : Int32).toUInt32 &&& Int32.toUInt32 31)).toInt32 &&& (858993459 : Int32))) + ((((a0 - ((a0.toUInt32 >>> ((1 : Int32).toUInt32 &&& Int32.toUInt32 31)).toInt32 &&& (1431655765 : Int32))) &&& (858993459 : Int32)) + (((a0 - ((a0.toUInt32 >>> ((1 : Int32).toUInt32 &&& Int32.toUInt32 31)).toInt32 &&& (1431655765 : Int32))).toUInt32 >>> ((2 : Int32).toUInt32 &&& Int32.toUInt32 31)).toInt32 &&& (858993459 : Int32))).toUInt32 >>> ((4 : Int32).toUInt32 &&& Int32.toUInt32 31)).toInt32) &&& (252645135 : Int32)) + ((((((a0 - ((a0.toUInt32 >>> ((1 : Int32).toUInt32 &&& Int32.toUInt32 31)).toInt32 &&& (1431655765 : Int32))) &&& (858993459 : Int32)) + (((a0 - ((a0.toUInt32 >>> ((1 : Int32).toUInt32 &&& Int32.toUInt32 31)).toInt32 &&& (1431655765 : Int32))).toUInt32 >>> ((2 : Int32).toUInt32 &&& Int32.toUInt32 31)).toInt32 &&& (858993459 : Int32))) + ((((a0 - ((a0.toUInt32 >>> ((1 : Int32).toUInt32 &&& Int32.toUInt32 31)).toInt32 &&& (1431655765 : Int32))) &&& (858993459 : Int32)) + (((a0 - ((a0.toUInt32 >>> ((1 : Int32).toUInt32 &&& Int32.toUInt32 31)).toInt32 &&& (1431655765 : Int32))).toUInt32 >>> ((2 : Int32).toUInt32 &&& Int32.toUInt32 31)).toInt32 &&& (858993459 : Int32))).toUInt32 >>> ((4 : Int32).toUInt32 &&& Int32.toUInt32 31)).toInt32) &&& (252645135 : Int32)).toUInt32 >>> ((8 : Int32).toUInt32 &&& Int32.toUInt32 31)).toInt32) + (((((((a0 - ((a0.toUInt32 >>> ((1 : Int32).toUInt32 &&& Int32.toUInt32 31)).toInt32 &&& (1431655765 : Int32))) &&& (858993459 : Int32)) + (((a0 - ((a0.toUInt32 >>> ((1 : Int32).toUInt32 &&& Int32.toUInt32 31)).toInt32 &&& (1431655765 : Int32))).toUInt32 >>> ((2 : Int32).toUInt32 &&& Int32.toUInt32 31)).toInt32 &&& (858993459 : Int32))) + ((((a0 - ((a0.toUInt32 >>> ((1 : Int32).toUInt32 &&& Int32.toUInt32 31)).toInt32 &&& (1431655765 : Int32))) &&& (858993459 : Int32)) + (((a0 - ((a0.toUInt32 >>> ((1 : Int32).toUInt32 &&& Int32.toUInt32 31)).toInt32 &&& (1431655765 : Int32))).toUInt32 >>> ((2 : Int32).toUInt32 &&& Int32.toUInt32 31)).toInt32 &&& (858993459 : Int32))).toUInt32 >>> ((4 : Int32).toUInt32 &&& Int32.toUInt32 31)).toInt32) &&& (252645135 : Int32)) + ((((((a0 - ((a0.toUInt32 >>> ((1 : Int32).toUInt32 &&& Int32.toUInt32 31)).toInt32 &&& (1431655765 : Int32))) &&& (858993459 : Int32)) + (((a0 - ((a0.toUInt32 >>> ((1 : Int32).toUInt32 &&& Int32.toUInt32 31)).toInt32 &&& (1431655765 : Int32))).toUInt32 >>> ((2 : Int32).toUInt32 &&& Int32.toUInt32 31)).toInt32 &&& (858993459 : Int32))) + ((((a0 - ((a0.toUInt32 >>> ((1 : Int32).toUInt32 &&& Int32.toUInt32 31)).toInt32 &&& (1431655765 : Int32))) &&& (858993459 : Int32)) + (((a0 - ((a0.toUInt32 >>> ((1 : Int32).toUInt32 &&& Int32.toUInt32 31)).toInt32 &&& (1431655765 : Int32))).toUInt32 >>> ((2 : Int32).toUInt32 &&& Int32.toUInt32 31)).toInt32 &&& (858993459 : Int32))).toUInt32 >>> ((4 : Int32).toUInt32 &&& Int32.toUInt32 31)).toInt32) &&& (252645135 : Int32)).toUInt32 >>> ((8 : Int32).toUInt32 &&& Int32.toUInt32 31)).toInt32).toUInt32 >>> ((16 : Int32).toUInt32 &&& Int32.toUInt32 31)).toInt32) &&& (63 : Int32)) at h
  refine lv_iload_n hx hb dJ6_bitCount_0f7a4_0 rfl (lv_at hl 0 rfl) ?_
  refine lv_iload_n hx hb dJ6_bitCount_0f7a4_1 rfl (lv_at hl 0 rfl) ?_
  refine lv_iconst (v := (1 : Int32)) hx hb dJ6_bitCount_0f7a4_2 (by decide) ?_
  refine lv_iushr hx hb dJ6_bitCount_0f7a4_3 rfl ?_
  refine lv_ldcw (v := (1431655765 : Int32)) hx hb hown (ht _ q_566) dJ6_bitCount_0f7a4_4 ?_
  refine lv_iand hx hb dJ6_bitCount_0f7a4_7 ?_
  refine lv_isub hx hb dJ6_bitCount_0f7a4_8 ?_
  refine lv_istore_n (lv' := [(0, .int (a0 - ((a0.toUInt32 >>> ((1 : Int32).toUInt32 &&& Int32.toUInt32 31)).toInt32 &&& (1431655765 : Int32))))]) hx hb dJ6_bitCount_0f7a4_9 rfl hl (by decide) rfl (fun ls hl => ?_)
  refine lv_iload_n hx hb dJ6_bitCount_0f7a4_10 rfl (lv_at hl 0 rfl) ?_
  refine lv_ldcw (v := (858993459 : Int32)) hx hb hown (ht _ q_567) dJ6_bitCount_0f7a4_11 ?_
  refine lv_iand hx hb dJ6_bitCount_0f7a4_14 ?_
  refine lv_iload_n hx hb dJ6_bitCount_0f7a4_15 rfl (lv_at hl 0 rfl) ?_
  refine lv_iconst (v := (2 : Int32)) hx hb dJ6_bitCount_0f7a4_16 (by decide) ?_
  refine lv_iushr hx hb dJ6_bitCount_0f7a4_17 rfl ?_
  refine lv_ldcw (v := (858993459 : Int32)) hx hb hown (ht _ q_567) dJ6_bitCount_0f7a4_18 ?_
  refine lv_iand hx hb dJ6_bitCount_0f7a4_21 ?_
  refine lv_iadd hx hb dJ6_bitCount_0f7a4_22 ?_
  refine lv_istore_n (lv' := [(0, .int (((a0 - ((a0.toUInt32 >>> ((1 : Int32).toUInt32 &&& Int32.toUInt32 31)).toInt32 &&& (1431655765 : Int32))) &&& (858993459 : Int32)) + (((a0 - ((a0.toUInt32 >>> ((1 : Int32).toUInt32 &&& Int32.toUInt32 31)).toInt32 &&& (1431655765 : Int32))).toUInt32 >>> ((2 : Int32).toUInt32 &&& Int32.toUInt32 31)).toInt32 &&& (858993459 : Int32))))]) hx hb dJ6_bitCount_0f7a4_23 rfl hl (by decide) rfl (fun ls hl => ?_)
  refine lv_iload_n hx hb dJ6_bitCount_0f7a4_24 rfl (lv_at hl 0 rfl) ?_
  refine lv_iload_n hx hb dJ6_bitCount_0f7a4_25 rfl (lv_at hl 0 rfl) ?_
  refine lv_iconst (v := (4 : Int32)) hx hb dJ6_bitCount_0f7a4_26 (by decide) ?_
  refine lv_iushr hx hb dJ6_bitCount_0f7a4_27 rfl ?_
  refine lv_iadd hx hb dJ6_bitCount_0f7a4_28 ?_
  refine lv_ldcw (v := (252645135 : Int32)) hx hb hown (ht _ q_568) dJ6_bitCount_0f7a4_29 ?_
  refine lv_iand hx hb dJ6_bitCount_0f7a4_32 ?_
  refine lv_istore_n (lv' := [(0, .int (((((a0 - ((a0.toUInt32 >>> ((1 : Int32).toUInt32 &&& Int32.toUInt32 31)).toInt32 &&& (1431655765 : Int32))) &&& (858993459 : Int32)) + (((a0 - ((a0.toUInt32 >>> ((1 : Int32).toUInt32 &&& Int32.toUInt32 31)).toInt32 &&& (1431655765 : Int32))).toUInt32 >>> ((2 : Int32).toUInt32 &&& Int32.toUInt32 31)).toInt32 &&& (858993459 : Int32))) + ((((a0 - ((a0.toUInt32 >>> ((1 : Int32).toUInt32 &&& Int32.toUInt32 31)).toInt32 &&& (1431655765 : Int32))) &&& (858993459 : Int32)) + (((a0 - ((a0.toUInt32 >>> ((1 : Int32).toUInt32 &&& Int32.toUInt32 31)).toInt32 &&& (1431655765 : Int32))).toUInt32 >>> ((2 : Int32).toUInt32 &&& Int32.toUInt32 31)).toInt32 &&& (858993459 : Int32))).toUInt32 >>> ((4 : Int32).toUInt32 &&& Int32.toUInt32 31)).toInt32) &&& (252645135 : Int32)))]) hx hb dJ6_bitCount_0f7a4_33 rfl hl (by decide) rfl (fun ls hl => ?_)
  refine lv_iload_n hx hb dJ6_bitCount_0f7a4_34 rfl (lv_at hl 0 rfl) ?_
  refine lv_iload_n hx hb dJ6_bitCount_0f7a4_35 rfl (lv_at hl 0 rfl) ?_
  refine lv_bipush (v := (8 : Int32)) hx hb dJ6_bitCount_0f7a4_36 (by decide) ?_
  refine lv_iushr hx hb dJ6_bitCount_0f7a4_38 rfl ?_
  refine lv_iadd hx hb dJ6_bitCount_0f7a4_39 ?_
  refine lv_istore_n (lv' := [(0, .int ((((((a0 - ((a0.toUInt32 >>> ((1 : Int32).toUInt32 &&& Int32.toUInt32 31)).toInt32 &&& (1431655765 : Int32))) &&& (858993459 : Int32)) + (((a0 - ((a0.toUInt32 >>> ((1 : Int32).toUInt32 &&& Int32.toUInt32 31)).toInt32 &&& (1431655765 : Int32))).toUInt32 >>> ((2 : Int32).toUInt32 &&& Int32.toUInt32 31)).toInt32 &&& (858993459 : Int32))) + ((((a0 - ((a0.toUInt32 >>> ((1 : Int32).toUInt32 &&& Int32.toUInt32 31)).toInt32 &&& (1431655765 : Int32))) &&& (858993459 : Int32)) + (((a0 - ((a0.toUInt32 >>> ((1 : Int32).toUInt32 &&& Int32.toUInt32 31)).toInt32 &&& (1431655765 : Int32))).toUInt32 >>> ((2 : Int32).toUInt32 &&& Int32.toUInt32 31)).toInt32 &&& (858993459 : Int32))).toUInt32 >>> ((4 : Int32).toUInt32 &&& Int32.toUInt32 31)).toInt32) &&& (252645135 : Int32)) + ((((((a0 - ((a0.toUInt32 >>> ((1 : Int32).toUInt32 &&& Int32.toUInt32 31)).toInt32 &&& (1431655765 : Int32))) &&& (858993459 : Int32)) + (((a0 - ((a0.toUInt32 >>> ((1 : Int32).toUInt32 &&& Int32.toUInt32 31)).toInt32 &&& (1431655765 : Int32))).toUInt32 >>> ((2 : Int32).toUInt32 &&& Int32.toUInt32 31)).toInt32 &&& (858993459 : Int32))) + ((((a0 - ((a0.toUInt32 >>> ((1 : Int32).toUInt32 &&& Int32.toUInt32 31)).toInt32 &&& (1431655765 : Int32))) &&& (858993459 : Int32)) + (((a0 - ((a0.toUInt32 >>> ((1 : Int32).toUInt32 &&& Int32.toUInt32 31)).toInt32 &&& (1431655765 : Int32))).toUInt32 >>> ((2 : Int32).toUInt32 &&& Int32.toUInt32 31)).toInt32 &&& (858993459 : Int32))).toUInt32 >>> ((4 : Int32).toUInt32 &&& Int32.toUInt32 31)).toInt32) &&& (252645135 : Int32)).toUInt32 >>> ((8 : Int32).toUInt32 &&& Int32.toUInt32 31)).toInt32))]) hx hb dJ6_bitCount_0f7a4_40 rfl hl (by decide) rfl (fun ls hl => ?_)
  refine lv_iload_n hx hb dJ6_bitCount_0f7a4_41 rfl (lv_at hl 0 rfl) ?_
  refine lv_iload_n hx hb dJ6_bitCount_0f7a4_42 rfl (lv_at hl 0 rfl) ?_
  refine lv_bipush (v := (16 : Int32)) hx hb dJ6_bitCount_0f7a4_43 (by decide) ?_
  refine lv_iushr hx hb dJ6_bitCount_0f7a4_45 rfl ?_
  refine lv_iadd hx hb dJ6_bitCount_0f7a4_46 ?_
  refine lv_istore_n (lv' := [(0, .int (((((((a0 - ((a0.toUInt32 >>> ((1 : Int32).toUInt32 &&& Int32.toUInt32 31)).toInt32 &&& (1431655765 : Int32))) &&& (858993459 : Int32)) + (((a0 - ((a0.toUInt32 >>> ((1 : Int32).toUInt32 &&& Int32.toUInt32 31)).toInt32 &&& (1431655765 : Int32))).toUInt32 >>> ((2 : Int32).toUInt32 &&& Int32.toUInt32 31)).toInt32 &&& (858993459 : Int32))) + ((((a0 - ((a0.toUInt32 >>> ((1 : Int32).toUInt32 &&& Int32.toUInt32 31)).toInt32 &&& (1431655765 : Int32))) &&& (858993459 : Int32)) + (((a0 - ((a0.toUInt32 >>> ((1 : Int32).toUInt32 &&& Int32.toUInt32 31)).toInt32 &&& (1431655765 : Int32))).toUInt32 >>> ((2 : Int32).toUInt32 &&& Int32.toUInt32 31)).toInt32 &&& (858993459 : Int32))).toUInt32 >>> ((4 : Int32).toUInt32 &&& Int32.toUInt32 31)).toInt32) &&& (252645135 : Int32)) + ((((((a0 - ((a0.toUInt32 >>> ((1 : Int32).toUInt32 &&& Int32.toUInt32 31)).toInt32 &&& (1431655765 : Int32))) &&& (858993459 : Int32)) + (((a0 - ((a0.toUInt32 >>> ((1 : Int32).toUInt32 &&& Int32.toUInt32 31)).toInt32 &&& (1431655765 : Int32))).toUInt32 >>> ((2 : Int32).toUInt32 &&& Int32.toUInt32 31)).toInt32 &&& (858993459 : Int32))) + ((((a0 - ((a0.toUInt32 >>> ((1 : Int32).toUInt32 &&& Int32.toUInt32 31)).toInt32 &&& (1431655765 : Int32))) &&& (858993459 : Int32)) + (((a0 - ((a0.toUInt32 >>> ((1 : Int32).toUInt32 &&& Int32.toUInt32 31)).toInt32 &&& (1431655765 : Int32))).toUInt32 >>> ((2 : Int32).toUInt32 &&& Int32.toUInt32 31)).toInt32 &&& (858993459 : Int32))).toUInt32 >>> ((4 : Int32).toUInt32 &&& Int32.toUInt32 31)).toInt32) &&& (252645135 : Int32)).toUInt32 >>> ((8 : Int32).toUInt32 &&& Int32.toUInt32 31)).toInt32) + (((((((a0 - ((a0.toUInt32 >>> ((1 : Int32).toUInt32 &&& Int32.toUInt32 31)).toInt32 &&& (1431655765 : Int32))) &&& (858993459 : Int32)) + (((a0 - ((a0.toUInt32 >>> ((1 : Int32).toUInt32 &&& Int32.toUInt32 31)).toInt32 &&& (1431655765 : Int32))).toUInt32 >>> ((2 : Int32).toUInt32 &&& Int32.toUInt32 31)).toInt32 &&& (858993459 : Int32))) + ((((a0 - ((a0.toUInt32 >>> ((1 : Int32).toUInt32 &&& Int32.toUInt32 31)).toInt32 &&& (1431655765 : Int32))) &&& (858993459 : Int32)) + (((a0 - ((a0.toUInt32 >>> ((1 : Int32).toUInt32 &&& Int32.toUInt32 31)).toInt32 &&& (1431655765 : Int32))).toUInt32 >>> ((2 : Int32).toUInt32 &&& Int32.toUInt32 31)).toInt32 &&& (858993459 : Int32))).toUInt32 >>> ((4 : Int32).toUInt32 &&& Int32.toUInt32 31)).toInt32) &&& (252645135 : Int32)) + ((((((a0 - ((a0.toUInt32 >>> ((1 : Int32).toUInt32 &&& Int32.toUInt32 31)).toInt32 &&& (1431655765 : Int32))) &&& (858993459 : Int32)) + (((a0 - ((a0.toUInt32 >>> ((1 : Int32).toUInt32 &&& Int32.toUInt32 31)).toInt32 &&& (1431655765 : Int32))).toUInt32 >>> ((2 : Int32).toUInt32 &&& Int32.toUInt32 31)).toInt32 &&& (858993459 : Int32))) + ((((a0 - ((a0.toUInt32 >>> ((1 : Int32).toUInt32 &&& Int32.toUInt32 31)).toInt32 &&& (1431655765 : Int32))) &&& (858993459 : Int32)) + (((a0 - ((a0.toUInt32 >>> ((1 : Int32).toUInt32 &&& Int32.toUInt32 31)).toInt32 &&& (1431655765 : Int32))).toUInt32 >>> ((2 : Int32).toUInt32 &&& Int32.toUInt32 31)).toInt32 &&& (858993459 : Int32))).toUInt32 >>> ((4 : Int32).toUInt32 &&& Int32.toUInt32 31)).toInt32) &&& (252645135 : Int32)).toUInt32 >>> ((8 : Int32).toUInt32 &&& Int32.toUInt32 31)).toInt32).toUInt32 >>> ((16 : Int32).toUInt32 &&& Int32.toUInt32 31)).toInt32))]) hx hb dJ6_bitCount_0f7a4_47 rfl hl (by decide) rfl (fun ls hl => ?_)
  refine lv_iload_n hx hb dJ6_bitCount_0f7a4_48 rfl (lv_at hl 0 rfl) ?_
  refine lv_bipush (v := (63 : Int32)) hx hb dJ6_bitCount_0f7a4_49 (by decide) ?_
  refine lv_iand hx hb dJ6_bitCount_0f7a4_51 ?_
  exact hret ls 52 _ h rfl dJ6_bitCount_0f7a4_52
def wpl_X2_countArrows_14 (k0 : Nat) (μ : TMem) (v7 : Int32) (K37 : Int32 → Prop) : Nat → Int32 → Int32 → Prop
  | 0, _, _ => False
  | n + 1, v6, v8 =>
    ((3 : Int32) ≤ v6 → (K37 v8)) ∧ (¬ (3 : Int32) ≤ v6 → (wp_X7_at k0 μ v7 v6 (fun (r10 : Int32) => wp_J6_bitCount_0f7a4 r10 (fun (r13 : Int32) => wpl_X2_countArrows_14 k0 μ v7 K37 n (v6 + (1 : Int32)) (v8 + r13)))))
def wpl_X2_countArrows_4 (k0 : Nat) (μ : TMem) (Q : Int32 → Prop) : Nat → Int32 → Int32 → Prop
  | 0, _, _ => False
  | n + 1, v2, v3 =>
    ((μ k0 1) ≤ v2 → (Q v3)) ∧ (¬ (μ k0 1) ≤ v2 → (∃ n4x, wpl_X2_countArrows_14 k0 μ v2 (fun (u15 : Int32) => wpl_X2_countArrows_4 k0 μ Q n (v2 + (1 : Int32)) u15) n4x (0 : Int32) v3))
def wp_X2_countArrows (k0 : Nat) (μ : TMem) (Q : Int32 → Prop) : Prop :=
  ∃ n0x, wpl_X2_countArrows_4 k0 μ Q n0x (0 : Int32) (0 : Int32)
set_option maxHeartbeats 4000000 in
set_option maxRecDepth 100000 in
theorem c_X2_countArrows {l : Launch} {D : va_G} {ad : Nat → Nat} {cI cM : ClassId} (k0 : Nat) (hk0 : kd k0 = 2) (μ : TMem) (sz : Nat)  {Q : Int32 → Prop} (h : wp_X2_countArrows k0 μ Q) : TMi l yX2_countArrows (.code yX2_countArrows cX2_countArrows 4 (Option.some Jvm.ClassFile.FieldType.int)) 1 [.ref (ad k0)] D ad cI cM sz μ (fun r μ1 => μ1 = μ ∧ Q r) := by
  refine T_meti (by decide +kernel) (Nat.le_of_ble_eq_true rfl) ?_
  intro p e s m below meth c Z ls hx hb hml hown ht hN hK hw hret hl
  have hl : lv_has ls 4 [(0, .ref (ad k0))] := hl
  generalize s.heap = H at hw ⊢
  generalize ([] : List Loc) = locs at hw ⊢
  change ∃ n0x, wpl_X2_countArrows_4 k0 μ Q n0x (0 : Int32) (0 : Int32) at h
  refine lv_iconst (v := (0 : Int32)) hx hb dX2_countArrows_0 (by decide) ?_
  refine lv_istore_n (lv' := [(1, .int (0 : Int32)), (0, .ref (ad k0))]) hx hb dX2_countArrows_1 rfl hl (by decide) rfl (fun ls hl => ?_)
  refine lv_iconst (v := (0 : Int32)) hx hb dX2_countArrows_2 (by decide) ?_
  refine lv_istore_n (lv' := [(2, .int (0 : Int32)), (1, .int (0 : Int32)), (0, .ref (ad k0))]) hx hb dX2_countArrows_3 rfl hl (by decide) rfl (fun ls hl => ?_)
  obtain ⟨n16, h⟩ := h
  have L0 : ∀ (n : Nat) (v2 : Int32) (v3 : Int32) (H : Heap) (locs : List Loc) (ls : Array Slot), TW D ad cI cM s μ H locs → lv_has ls 4 [(2, .int v2), (1, .int v3), (0, .ref (ad k0))] → wpl_X2_countArrows_4 k0 μ Q n v2 v3 → W p l e (RM 1) s m #[.ref (ad k0)] below meth c H locs 0 0 Z (F0 m 4 ls []) := by
    intro n
    induction n with
    | zero => intro v2 v3 H locs ls hw hl h; exact False.elim h
    | succ n ih0 =>
      intro v2 v3 H locs ls hw hl h
      change ((μ k0 1) ≤ v2 → (Q v3)) ∧ (¬ (μ k0 1) ≤ v2 → (∃ n4x, wpl_X2_countArrows_14 k0 μ v2 (fun (u15 : Int32) => wpl_X2_countArrows_4 k0 μ Q n (v2 + (1 : Int32)) u15) n4x (0 : Int32) v3)) at h
      refine lv_iload_n hx hb dX2_countArrows_4 rfl (lv_at hl 0 rfl) ?_
      refine lv_aload_n hx hb dX2_countArrows_5 rfl (lv_at hl 2 rfl) ?_
      refine gf_X2_15 hx hb ht hown hK hw hk0 dX2_countArrows_6 ?_
      refine lv_icmp_ge (tgt := 43) hx hb dX2_countArrows_9 (by decide) (fun c4 => ?_) (fun c4 => ?_)
      · have h := h.1 c4
        refine lv_iload_n hx hb dX2_countArrows_43 rfl (lv_at hl 1 rfl) ?_
        exact hret H locs ls 44 _ _ hw ⟨rfl, h⟩ rfl dX2_countArrows_44
      have h := h.2 c4
      refine lv_iconst (v := (0 : Int32)) hx hb dX2_countArrows_12 (by decide) ?_
      refine lv_istore_n (lv' := [(3, .int (0 : Int32)), (2, .int v2), (1, .int v3), (0, .ref (ad k0))]) hx hb dX2_countArrows_13 rfl hl (by decide) rfl (fun ls hl => ?_)
      obtain ⟨n14, h⟩ := h
      have L4 : ∀ (v7 : Int32) (K37 : Int32 → Prop), (∀ (v8 : Int32) (H : Heap) (locs : List Loc) (ls : Array Slot), TW D ad cI cM s μ H locs → lv_has ls 4 [(2, .int v7), (1, .int v8), (0, .ref (ad k0))] → K37 v8 → W p l e (RM 1) s m #[.ref (ad k0)] below meth c H locs 0 0 Z (F0 m 37 ls [])) → ∀ (n : Nat) (v6 : Int32) (v8 : Int32) (H : Heap) (locs : List Loc) (ls : Array Slot), TW D ad cI cM s μ H locs → lv_has ls 4 [(3, .int v6), (2, .int v7), (1, .int v8), (0, .ref (ad k0))] → wpl_X2_countArrows_14 k0 μ v7 K37 n v6 v8 → W p l e (RM 1) s m #[.ref (ad k0)] below meth c H locs 0 0 Z (F0 m 14 ls []) := by
        intro v7 K37 hK37
        intro n
        induction n with
        | zero => intro v6 v8 H locs ls hw hl h; exact False.elim h
        | succ n ih4 =>
          intro v6 v8 H locs ls hw hl h
          change ((3 : Int32) ≤ v6 → (K37 v8)) ∧ (¬ (3 : Int32) ≤ v6 → (wp_X7_at k0 μ v7 v6 (fun (r10 : Int32) => wp_J6_bitCount_0f7a4 r10 (fun (r13 : Int32) => wpl_X2_countArrows_14 k0 μ v7 K37 n (v6 + (1 : Int32)) (v8 + r13))))) at h
          refine lv_iload_n hx hb dX2_countArrows_14 rfl (lv_at hl 0 rfl) ?_
          refine lv_iconst (v := (3 : Int32)) hx hb dX2_countArrows_15 (by decide) ?_
          refine lv_icmp_ge (tgt := 37) hx hb dX2_countArrows_16 (by decide) (fun c9 => ?_) (fun c9 => ?_)
          · have h := h.1 c9
            exact hK37 v8 H locs ls hw (lv_sub hl [1, 2, 3] rfl) h
          have h := h.2 c9
          refine lv_iload_n hx hb dX2_countArrows_19 rfl (lv_at hl 2 rfl) ?_
          refine lv_aload_n hx hb dX2_countArrows_20 rfl (lv_at hl 3 rfl) ?_
          refine lv_iload_n hx hb dX2_countArrows_21 rfl (lv_at hl 1 rfl) ?_
          refine lv_iload_n hx hb dX2_countArrows_22 rfl (lv_at hl 0 rfl) ?_
          refine T_calli hw (va_runU (own := "Leastreader$Machine") (As := [.int v7, .int v6]) (rest := [.int v8]) ⟨hx, hb, hml, hown, ht⟩ (c_X7_at_2 k0 hk0 μ H.size v7 v6 h) (va_cwU (owner := "Leastreader$Table") 2 ht (G_U q_412 q_413 q_415 q_416 q_47 q_417) rfl rfl rfl rfl hd_0 ⟨Nat.le_of_ble_eq_true rfl, Nat.le_of_ble_eq_true rfl⟩) ⟨TB.blind, (T_recv hK hw (kd_of hk0 (by decide)) (ent_2 hk0) cl_2), TB.pre hK hN hw⟩ rfl rfl hl.1 rfl (lv_room (Nat.le_of_ble_eq_true rfl)) dX2_countArrows_23 ⟨Nat.le_of_ble_eq_true rfl, Nat.le_of_ble_eq_true rfl⟩) (fun r10 μ11 H locs h hw => ?_)
          obtain ⟨e12, h⟩ := h
          rw [e12] at hw
          refine P_calli (va_runS (own := "Leastreader$Machine") (As := [.int r10]) (rest := [.int v8]) ⟨hx, hb, hml, hown, ht⟩ (c_J6_bitCount_0f7a4 r10 h) (va_cwS 1 ht (G_S q_563 q_564 q_63 q_565) rfl rfl rfl hd_33 ⟨Nat.le_of_ble_eq_true rfl, Nat.le_of_ble_eq_true rfl⟩) ⟨PM_blind, PM_pre⟩ rfl rfl hl.1 rfl (lv_room (Nat.le_of_ble_eq_true rfl)) dX2_countArrows_26 ⟨Nat.le_of_ble_eq_true rfl, Nat.le_of_ble_eq_true rfl⟩) (fun r13 h => ?_)
          refine lv_iadd hx hb dX2_countArrows_29 ?_
          refine lv_istore_n (lv' := [(1, .int (v8 + r13)), (3, .int v6), (2, .int v7), (0, .ref (ad k0))]) hx hb dX2_countArrows_30 rfl hl (by decide) rfl (fun ls hl => ?_)
          refine lv_iinc (v := (v6 + (1 : Int32))) (lv' := [(3, .int (v6 + (1 : Int32))), (1, .int (v8 + r13)), (2, .int v7), (0, .ref (ad k0))]) hx hb dX2_countArrows_31 hl (k := 1) rfl rfl (by decide) rfl (fun ls hl => ?_)
          refine lv_goto (tgt := 14) hx hb dX2_countArrows_34 (by decide) ?_
          exact ih4 (v6 + (1 : Int32)) (v8 + r13) H locs ls hw (lv_sub hl [0, 2, 1, 3] rfl) h
      refine L4 v2 _ ?_ n14 (0 : Int32) v3 H locs ls hw (lv_sub hl [0, 1, 2, 3] rfl) h
      intro u15 H locs ls hw hl h
      refine lv_iinc (v := (v2 + (1 : Int32))) (lv' := [(2, .int (v2 + (1 : Int32))), (1, .int u15), (0, .ref (ad k0))]) hx hb dX2_countArrows_37 hl (k := 0) rfl rfl (by decide) rfl (fun ls hl => ?_)
      refine lv_goto (tgt := 4) hx hb dX2_countArrows_40 (by decide) ?_
      exact ih0 (v2 + (1 : Int32)) u15 H locs ls hw (lv_sub hl [0, 1, 2] rfl) h
  exact L0 n16 (0 : Int32) (0 : Int32) H locs ls hw (lv_sub hl [0, 1, 2] rfl) h
def wpl_X2_isPlain_12 (k0 : Nat) (μ : TMem) (v6 : Int32) (K38 : Prop) (Q : Int32 → Prop) : Nat → Int32 → Prop
  | 0, _ => False
  | n + 1, v5 =>
    ((3 : Int32) ≤ v5 → (K38)) ∧ (¬ (3 : Int32) ≤ v5 → (wp_X7_at k0 μ v6 v5 (fun (r8 : Int32) => wp_J6_bitCount_0f7a4 r8 (fun (r11 : Int32) => (r11 = (1 : Int32) → (wpl_X2_isPlain_12 k0 μ v6 K38 Q n (v5 + (1 : Int32)))) ∧ (¬ r11 = (1 : Int32) → (Q (0 : Int32)))))))
def wpl_X2_isPlain_2 (k0 : Nat) (μ : TMem) (K44 : Prop) (Q : Int32 → Prop) : Nat → Int32 → Prop
  | 0, _ => False
  | n + 1, v2 =>
    ((μ k0 1) ≤ v2 → (K44)) ∧ (¬ (μ k0 1) ≤ v2 → (∃ n3x, wpl_X2_isPlain_12 k0 μ v2 (wpl_X2_isPlain_2 k0 μ K44 Q n (v2 + (1 : Int32))) Q n3x (0 : Int32)))
def wp_X2_isPlain (k0 : Nat) (μ : TMem) (Q : Int32 → Prop) : Prop :=
  ∃ n0x, wpl_X2_isPlain_2 k0 μ (wp_J6_bitCount_0f7a4 (μ k0 3) (fun (r15 : Int32) => (¬ r15 = (1 : Int32) → (Q (0 : Int32))) ∧ (r15 = (1 : Int32) → (Q (1 : Int32))))) Q n0x (0 : Int32)
set_option maxHeartbeats 4000000 in
set_option maxRecDepth 100000 in
theorem c_X2_isPlain {l : Launch} {D : va_G} {ad : Nat → Nat} {cI cM : ClassId} (k0 : Nat) (hk0 : kd k0 = 2) (μ : TMem) (sz : Nat)  {Q : Int32 → Prop} (h : wp_X2_isPlain k0 μ Q) : TMi l yX2_isPlain (.code yX2_isPlain cX2_isPlain 3 (Option.some Jvm.ClassFile.FieldType.boolean)) 1 [.ref (ad k0)] D ad cI cM sz μ (fun r μ1 => μ1 = μ ∧ Q r) := by
  refine T_meti (by decide +kernel) (Nat.le_of_ble_eq_true rfl) ?_
  intro p e s m below meth c Z ls hx hb hml hown ht hN hK hw hret hl
  have hl : lv_has ls 3 [(0, .ref (ad k0))] := hl
  generalize s.heap = H at hw ⊢
  generalize ([] : List Loc) = locs at hw ⊢
  change ∃ n0x, wpl_X2_isPlain_2 k0 μ (wp_J6_bitCount_0f7a4 (μ k0 3) (fun (r15 : Int32) => (¬ r15 = (1 : Int32) → (Q (0 : Int32))) ∧ (r15 = (1 : Int32) → (Q (1 : Int32))))) Q n0x (0 : Int32) at h
  refine lv_iconst (v := (0 : Int32)) hx hb dX2_isPlain_0 (by decide) ?_
  refine lv_istore_n (lv' := [(1, .int (0 : Int32)), (0, .ref (ad k0))]) hx hb dX2_isPlain_1 rfl hl (by decide) rfl (fun ls hl => ?_)
  obtain ⟨n14, h⟩ := h
  have L0 : ∀ (K44 : Prop), (∀ (H : Heap) (locs : List Loc) (ls : Array Slot), TW D ad cI cM s μ H locs → lv_has ls 3 [(0, .ref (ad k0))] → K44 → W p l e (RM 1) s m #[.ref (ad k0)] below meth c H locs 0 0 Z (F0 m 44 ls [])) → ∀ (n : Nat) (v2 : Int32) (H : Heap) (locs : List Loc) (ls : Array Slot), TW D ad cI cM s μ H locs → lv_has ls 3 [(1, .int v2), (0, .ref (ad k0))] → wpl_X2_isPlain_2 k0 μ K44 Q n v2 → W p l e (RM 1) s m #[.ref (ad k0)] below meth c H locs 0 0 Z (F0 m 2 ls []) := by
    intro K44 hK44
    intro n
    induction n with
    | zero => intro v2 H locs ls hw hl h; exact False.elim h
    | succ n ih0 =>
      intro v2 H locs ls hw hl h
      change ((μ k0 1) ≤ v2 → (K44)) ∧ (¬ (μ k0 1) ≤ v2 → (∃ n3x, wpl_X2_isPlain_12 k0 μ v2 (wpl_X2_isPlain_2 k0 μ K44 Q n (v2 + (1 : Int32))) Q n3x (0 : Int32))) at h
      refine lv_iload_n hx hb dX2_isPlain_2 rfl (lv_at hl 0 rfl) ?_
      refine lv_aload_n hx hb dX2_isPlain_3 rfl (lv_at hl 1 rfl) ?_
      refine gf_X2_15 hx hb ht hown hK hw hk0 dX2_isPlain_4 ?_
      refine lv_icmp_ge (tgt := 44) hx hb dX2_isPlain_7 (by decide) (fun c3 => ?_) (fun c3 => ?_)
      · have h := h.1 c3
        exact hK44 H locs ls hw (lv_sub hl [1] rfl) h
      have h := h.2 c3
      refine lv_iconst (v := (0 : Int32)) hx hb dX2_isPlain_10 (by decide) ?_
      refine lv_istore_n (lv' := [(2, .int (0 : Int32)), (1, .int v2), (0, .ref (ad k0))]) hx hb dX2_isPlain_11 rfl hl (by decide) rfl (fun ls hl => ?_)
      obtain ⟨n13, h⟩ := h
      have L3 : ∀ (v6 : Int32) (K38 : Prop), (∀ (H : Heap) (locs : List Loc) (ls : Array Slot), TW D ad cI cM s μ H locs → lv_has ls 3 [(1, .int v6), (0, .ref (ad k0))] → K38 → W p l e (RM 1) s m #[.ref (ad k0)] below meth c H locs 0 0 Z (F0 m 38 ls [])) → ∀ (n : Nat) (v5 : Int32) (H : Heap) (locs : List Loc) (ls : Array Slot), TW D ad cI cM s μ H locs → lv_has ls 3 [(2, .int v5), (1, .int v6), (0, .ref (ad k0))] → wpl_X2_isPlain_12 k0 μ v6 K38 Q n v5 → W p l e (RM 1) s m #[.ref (ad k0)] below meth c H locs 0 0 Z (F0 m 12 ls []) := by
        intro v6 K38 hK38
        intro n
        induction n with
        | zero => intro v5 H locs ls hw hl h; exact False.elim h
        | succ n ih3 =>
          intro v5 H locs ls hw hl h
          change ((3 : Int32) ≤ v5 → (K38)) ∧ (¬ (3 : Int32) ≤ v5 → (wp_X7_at k0 μ v6 v5 (fun (r8 : Int32) => wp_J6_bitCount_0f7a4 r8 (fun (r11 : Int32) => (r11 = (1 : Int32) → (wpl_X2_isPlain_12 k0 μ v6 K38 Q n (v5 + (1 : Int32)))) ∧ (¬ r11 = (1 : Int32) → (Q (0 : Int32))))))) at h
          refine lv_iload_n hx hb dX2_isPlain_12 rfl (lv_at hl 0 rfl) ?_
          refine lv_iconst (v := (3 : Int32)) hx hb dX2_isPlain_13 (by decide) ?_
          refine lv_icmp_ge (tgt := 38) hx hb dX2_isPlain_14 (by decide) (fun c7 => ?_) (fun c7 => ?_)
          · have h := h.1 c7
            exact hK38 H locs ls hw (lv_sub hl [1, 2] rfl) h
          have h := h.2 c7
          refine lv_aload_n hx hb dX2_isPlain_17 rfl (lv_at hl 2 rfl) ?_
          refine lv_iload_n hx hb dX2_isPlain_18 rfl (lv_at hl 1 rfl) ?_
          refine lv_iload_n hx hb dX2_isPlain_19 rfl (lv_at hl 0 rfl) ?_
          refine T_calli hw (va_runU (own := "Leastreader$Machine") (As := [.int v6, .int v5]) (rest := []) ⟨hx, hb, hml, hown, ht⟩ (c_X7_at_2 k0 hk0 μ H.size v6 v5 h) (va_cwU (owner := "Leastreader$Table") 2 ht (G_U q_412 q_413 q_415 q_416 q_47 q_417) rfl rfl rfl rfl hd_0 ⟨Nat.le_of_ble_eq_true rfl, Nat.le_of_ble_eq_true rfl⟩) ⟨TB.blind, (T_recv hK hw (kd_of hk0 (by decide)) (ent_2 hk0) cl_2), TB.pre hK hN hw⟩ rfl rfl hl.1 rfl (lv_room (Nat.le_of_ble_eq_true rfl)) dX2_isPlain_20 ⟨Nat.le_of_ble_eq_true rfl, Nat.le_of_ble_eq_true rfl⟩) (fun r8 μ9 H locs h hw => ?_)
          obtain ⟨e10, h⟩ := h
          rw [e10] at hw
          refine P_calli (va_runS (own := "Leastreader$Machine") (As := [.int r8]) (rest := []) ⟨hx, hb, hml, hown, ht⟩ (c_J6_bitCount_0f7a4 r8 h) (va_cwS 1 ht (G_S q_563 q_564 q_63 q_565) rfl rfl rfl hd_33 ⟨Nat.le_of_ble_eq_true rfl, Nat.le_of_ble_eq_true rfl⟩) ⟨PM_blind, PM_pre⟩ rfl rfl hl.1 rfl (lv_room (Nat.le_of_ble_eq_true rfl)) dX2_isPlain_23 ⟨Nat.le_of_ble_eq_true rfl, Nat.le_of_ble_eq_true rfl⟩) (fun r11 h => ?_)
          refine lv_iconst (v := (1 : Int32)) hx hb dX2_isPlain_26 (by decide) ?_
          refine lv_icmp_eq (tgt := 32) hx hb dX2_isPlain_27 (by decide) (fun c12 => ?_) (fun c12 => ?_)
          · have h := h.1 c12
            refine lv_iinc (v := (v5 + (1 : Int32))) (lv' := [(2, .int (v5 + (1 : Int32))), (1, .int v6), (0, .ref (ad k0))]) hx hb dX2_isPlain_32 hl (k := 0) rfl rfl (by decide) rfl (fun ls hl => ?_)
            refine lv_goto (tgt := 12) hx hb dX2_isPlain_35 (by decide) ?_
            exact ih3 (v5 + (1 : Int32)) H locs ls hw (lv_sub hl [0, 1, 2] rfl) h
          have h := h.2 c12
          refine lv_iconst (v := (0 : Int32)) hx hb dX2_isPlain_30 (by decide) ?_
          exact hret H locs ls 31 _ _ hw ⟨rfl, h⟩ rfl dX2_isPlain_31
      refine L3 v2 _ ?_ n13 (0 : Int32) H locs ls hw (lv_sub hl [0, 1, 2] rfl) h
      intro H locs ls hw hl h
      refine lv_iinc (v := (v2 + (1 : Int32))) (lv' := [(1, .int (v2 + (1 : Int32))), (0, .ref (ad k0))]) hx hb dX2_isPlain_38 hl (k := 0) rfl rfl (by decide) rfl (fun ls hl => ?_)
      refine lv_goto (tgt := 2) hx hb dX2_isPlain_41 (by decide) ?_
      exact ih0 (v2 + (1 : Int32)) H locs ls hw (lv_sub hl [0, 1] rfl) h
  refine L0 _ ?_ n14 (0 : Int32) H locs ls hw (lv_sub hl [0, 1] rfl) h
  intro H locs ls hw hl h
  refine lv_aload_n hx hb dX2_isPlain_44 rfl (lv_at hl 0 rfl) ?_
  refine gf_X2_9 hx hb ht hown hK hw hk0 dX2_isPlain_45 ?_
  refine P_calli (va_runS (own := "Leastreader$Machine") (As := [.int (μ k0 3)]) (rest := []) ⟨hx, hb, hml, hown, ht⟩ (c_J6_bitCount_0f7a4 (μ k0 3) h) (va_cwS 1 ht (G_S q_563 q_564 q_63 q_565) rfl rfl rfl hd_33 ⟨Nat.le_of_ble_eq_true rfl, Nat.le_of_ble_eq_true rfl⟩) ⟨PM_blind, PM_pre⟩ rfl rfl hl.1 rfl (lv_room (Nat.le_of_ble_eq_true rfl)) dX2_isPlain_48 ⟨Nat.le_of_ble_eq_true rfl, Nat.le_of_ble_eq_true rfl⟩) (fun r15 h => ?_)
  refine lv_iconst (v := (1 : Int32)) hx hb dX2_isPlain_51 (by decide) ?_
  refine lv_icmp_ne (tgt := 59) hx hb dX2_isPlain_52 (by decide) (fun c16 => ?_) (fun c16 => ?_)
  · have h := h.1 c16
    refine lv_iconst (v := (0 : Int32)) hx hb dX2_isPlain_59 (by decide) ?_
    exact hret H locs ls 60 _ _ hw ⟨rfl, h⟩ rfl dX2_isPlain_60
  have h := h.2 c16
  refine lv_iconst (v := (1 : Int32)) hx hb dX2_isPlain_55 (by decide) ?_
  refine lv_goto (tgt := 60) hx hb dX2_isPlain_56 (by decide) ?_
  exact hret H locs ls 60 _ _ hw ⟨rfl, h⟩ rfl dX2_isPlain_60
def wpl_X9_addMachine_83 (k1 : Nat) (μ : TMem) (v15 : Int32) (K111 : Int64 → Prop) : Nat → Int32 → Int64 → Prop
  | 0, _, _ => False
  | n + 1, v14, v16 =>
    ((3 : Int32) ≤ v14 → (K111 v16)) ∧ (¬ (3 : Int32) ≤ v14 → (wp_X7_at k1 μ v15 v14 (fun (r18 : Int32) => wpl_X9_addMachine_83 k1 μ v15 K111 n (v14 + (1 : Int32)) ((v16 * (31 : Int64)) + r18.toInt64))))
def wpl_X9_addMachine_71 (k1 : Nat) (μ : TMem) (Q : Int64 → Prop) : Nat → Int32 → Int64 → Prop
  | 0, _, _ => False
  | n + 1, v10, v11 =>
    ((μ k1 1) ≤ v10 → (Q v11)) ∧ (¬ (μ k1 1) ≤ v10 → (∃ n12x, wpl_X9_addMachine_83 k1 μ v10 (fun (u22 : Int64) => wpl_X9_addMachine_71 k1 μ Q n (v10 + (1 : Int32)) u22) n12x (0 : Int32) v11))
def wp_X9_addMachine (k1 : Nat) (μ : TMem) (a0 : Int64) (Q : Int64 → Prop) : Prop :=
  wp_X2_countArrows k1 μ (fun (r1 : Int32) => wp_X2_isPlain k1 μ (fun (r4 : Int32) => ∀ J7 : Int32 → Prop, (∀ (j8 : Int32), (∃ n8x, wpl_X9_addMachine_71 k1 μ Q n8x (0 : Int32) ((((((((((a0 * (31 : Int64)) + (μ k1 1).toInt64) * (31 : Int64)) + r1.toInt64) * (31 : Int64)) + (μ k1 3).toInt64) * (31 : Int64)) + (μ k1 2).toInt64) * (31 : Int64)) + j8.toInt64)) → J7 j8) → ((r4 = 0 → (J7 (0 : Int32))) ∧ (¬ r4 = 0 → (J7 (1 : Int32))))))
set_option maxHeartbeats 4000000 in
set_option maxRecDepth 100000 in
theorem c_X9_addMachine {l : Launch} {D : va_G} {ad : Nat → Nat} {cI cM : ClassId} (k1 : Nat) (hk1 : kd k1 = 2) (μ : TMem) (sz : Nat) (a0 : Int64) {Q : Int64 → Prop} (h : wp_X9_addMachine k1 μ a0 Q) : TMl l yX9_addMachine (.code yX9_addMachine cX9_addMachine 7 (Option.some Jvm.ClassFile.FieldType.long)) 2 [.long a0, .ref (ad k1)] D ad cI cM sz μ (fun r μ1 => μ1 = μ ∧ Q r) := by
  refine T_metl (by decide +kernel) (Nat.le_of_ble_eq_true rfl) ?_
  intro p e s m below meth c Z ls hx hb hml hown ht hN hK hw hret hl
  have hl : lv_has ls 7 [(0, .long a0), (2, .ref (ad k1))] := hl
  generalize s.heap = H at hw ⊢
  generalize ([] : List Loc) = locs at hw ⊢
  change wp_X2_countArrows k1 μ (fun (r1 : Int32) => wp_X2_isPlain k1 μ (fun (r4 : Int32) => ∀ J7 : Int32 → Prop, (∀ (j8 : Int32), (∃ n8x, wpl_X9_addMachine_71 k1 μ Q n8x (0 : Int32) ((((((((((a0 * (31 : Int64)) + (μ k1 1).toInt64) * (31 : Int64)) + r1.toInt64) * (31 : Int64)) + (μ k1 3).toInt64) * (31 : Int64)) + (μ k1 2).toInt64) * (31 : Int64)) + j8.toInt64)) → J7 j8) → ((r4 = 0 → (J7 (0 : Int32))) ∧ (¬ r4 = 0 → (J7 (1 : Int32)))))) at h
  refine lv_lload_n hx hb dX9_addMachine_0 rfl (lv_at hl 0 rfl) ?_
  refine lv_ldc2 (v := (31 : Int64)) hx hb hown (ht _ q_558) dX9_addMachine_1 ?_
  refine lv_lmul hx hb dX9_addMachine_4 ?_
  refine lv_aload_n hx hb dX9_addMachine_5 rfl (lv_at hl 1 rfl) ?_
  refine gf_X9_151 hx hb ht hown hK hw hk1 dX9_addMachine_6 ?_
  refine lv_i2l hx hb dX9_addMachine_9 rfl ?_
  refine lv_ladd hx hb dX9_addMachine_10 ?_
  refine lv_lstore_n (lv' := [(3, .long ((a0 * (31 : Int64)) + (μ k1 1).toInt64)), (0, .long a0), (2, .ref (ad k1))]) hx hb dX9_addMachine_11 rfl hl (by decide) rfl (fun ls hl => ?_)
  refine lv_lload_n hx hb dX9_addMachine_12 rfl (lv_at hl 0 rfl) ?_
  refine lv_ldc2 (v := (31 : Int64)) hx hb hown (ht _ q_558) dX9_addMachine_13 ?_
  refine lv_lmul hx hb dX9_addMachine_16 ?_
  refine lv_aload_n hx hb dX9_addMachine_17 rfl (lv_at hl 2 rfl) ?_
  refine T_calli hw (va_runV (own := "Leastreader") (As := []) (rest := [.long (((a0 * (31 : Int64)) + (μ k1 1).toInt64) * (31 : Int64))]) ⟨hx, hb, hml, hown, ht⟩ (c_X2_countArrows k1 hk1 μ H.size h) (cwV 0 ht (G_V q_559 q_560 q_561 q_48 q_562) rfl rfl rfl ⟨rfl, hd_34⟩ ⟨Nat.le_of_ble_eq_true rfl, Nat.le_of_ble_eq_true rfl⟩) ⟨TB.blind, (T_recv hK hw (kd_of hk1 (by decide)) (ent_2 hk1) cl_2), TB.pre hK hN hw⟩ rfl rfl hl.1 rfl (lv_room (Nat.le_of_ble_eq_true rfl)) dX9_addMachine_18 ⟨Nat.le_of_ble_eq_true rfl, Nat.le_of_ble_eq_true rfl⟩) (fun r1 μ2 H locs h hw => ?_)
  obtain ⟨e3, h⟩ := h
  rw [e3] at hw
  refine lv_i2l hx hb dX9_addMachine_21 rfl ?_
  refine lv_ladd hx hb dX9_addMachine_22 ?_
  refine lv_lstore_n (lv' := [(3, .long ((((a0 * (31 : Int64)) + (μ k1 1).toInt64) * (31 : Int64)) + r1.toInt64)), (0, .long a0), (2, .ref (ad k1))]) hx hb dX9_addMachine_23 rfl hl (by decide) rfl (fun ls hl => ?_)
  refine lv_lload_n hx hb dX9_addMachine_24 rfl (lv_at hl 0 rfl) ?_
  refine lv_ldc2 (v := (31 : Int64)) hx hb hown (ht _ q_558) dX9_addMachine_25 ?_
  refine lv_lmul hx hb dX9_addMachine_28 ?_
  refine lv_aload_n hx hb dX9_addMachine_29 rfl (lv_at hl 2 rfl) ?_
  refine gf_X9_115 hx hb ht hN hown hK hw hk1 dX9_addMachine_30 ?_
  refine lv_i2l hx hb dX9_addMachine_33 rfl ?_
  refine lv_ladd hx hb dX9_addMachine_34 ?_
  refine lv_lstore_n (lv' := [(3, .long ((((((a0 * (31 : Int64)) + (μ k1 1).toInt64) * (31 : Int64)) + r1.toInt64) * (31 : Int64)) + (μ k1 3).toInt64)), (0, .long a0), (2, .ref (ad k1))]) hx hb dX9_addMachine_35 rfl hl (by decide) rfl (fun ls hl => ?_)
  refine lv_lload_n hx hb dX9_addMachine_36 rfl (lv_at hl 0 rfl) ?_
  refine lv_ldc2 (v := (31 : Int64)) hx hb hown (ht _ q_558) dX9_addMachine_37 ?_
  refine lv_lmul hx hb dX9_addMachine_40 ?_
  refine lv_aload_n hx hb dX9_addMachine_41 rfl (lv_at hl 2 rfl) ?_
  refine gf_X9_111 hx hb ht hown hK hw hk1 dX9_addMachine_42 ?_
  refine lv_i2l hx hb dX9_addMachine_45 rfl ?_
  refine lv_ladd hx hb dX9_addMachine_46 ?_
  refine lv_lstore_n (lv' := [(3, .long ((((((((a0 * (31 : Int64)) + (μ k1 1).toInt64) * (31 : Int64)) + r1.toInt64) * (31 : Int64)) + (μ k1 3).toInt64) * (31 : Int64)) + (μ k1 2).toInt64)), (0, .long a0), (2, .ref (ad k1))]) hx hb dX9_addMachine_47 rfl hl (by decide) rfl (fun ls hl => ?_)
  refine lv_lload_n hx hb dX9_addMachine_48 rfl (lv_at hl 0 rfl) ?_
  refine lv_ldc2 (v := (31 : Int64)) hx hb hown (ht _ q_558) dX9_addMachine_49 ?_
  refine lv_lmul hx hb dX9_addMachine_52 ?_
  refine lv_aload_n hx hb dX9_addMachine_53 rfl (lv_at hl 2 rfl) ?_
  refine T_calli hw (va_runV (own := "Leastreader") (As := []) (rest := [.long (((((((((a0 * (31 : Int64)) + (μ k1 1).toInt64) * (31 : Int64)) + r1.toInt64) * (31 : Int64)) + (μ k1 3).toInt64) * (31 : Int64)) + (μ k1 2).toInt64) * (31 : Int64))]) ⟨hx, hb, hml, hown, ht⟩ (c_X2_isPlain k1 hk1 μ H.size h) (cwV 0 ht (G_V q_569 q_570 q_571 q_48 q_572) rfl rfl rfl ⟨rfl, hd_35⟩ ⟨Nat.le_of_ble_eq_true rfl, Nat.le_of_ble_eq_true rfl⟩) ⟨TB.blind, (T_recv hK hw (kd_of hk1 (by decide)) (ent_2 hk1) cl_2), TB.pre hK hN hw⟩ rfl rfl hl.1 rfl (lv_room (Nat.le_of_ble_eq_true rfl)) dX9_addMachine_54 ⟨Nat.le_of_ble_eq_true rfl, Nat.le_of_ble_eq_true rfl⟩) (fun r4 μ5 H locs h hw => ?_)
  obtain ⟨e6, h⟩ := h
  rw [e6] at hw
  have h := h (fun j8 => ∀ (H : Heap) (locs : List Loc) (ls : Array Slot), TW D ad cI cM s μ H locs → lv_has ls 7 [(2, .ref (ad k1))] → W p l e (RM 2) s m #[.long a0, .ref (ad k1)] below meth c H locs 0 0 Z (F0 m 65 ls [.int j8, .long (((((((((a0 * (31 : Int64)) + (μ k1 1).toInt64) * (31 : Int64)) + r1.toInt64) * (31 : Int64)) + (μ k1 3).toInt64) * (31 : Int64)) + (μ k1 2).toInt64) * (31 : Int64))])) (fun j8 h H locs ls hw hl => by
    refine lv_i2l hx hb dX9_addMachine_65 rfl ?_
    refine lv_ladd hx hb dX9_addMachine_66 ?_
    refine lv_lstore_n (lv' := [(3, .long ((((((((((a0 * (31 : Int64)) + (μ k1 1).toInt64) * (31 : Int64)) + r1.toInt64) * (31 : Int64)) + (μ k1 3).toInt64) * (31 : Int64)) + (μ k1 2).toInt64) * (31 : Int64)) + j8.toInt64)), (2, .ref (ad k1))]) hx hb dX9_addMachine_67 rfl hl (by decide) rfl (fun ls hl => ?_)
    refine lv_iconst (v := (0 : Int32)) hx hb dX9_addMachine_68 (by decide) ?_
    refine lv_istore (lv' := [(5, .int (0 : Int32)), (3, .long ((((((((((a0 * (31 : Int64)) + (μ k1 1).toInt64) * (31 : Int64)) + r1.toInt64) * (31 : Int64)) + (μ k1 3).toInt64) * (31 : Int64)) + (μ k1 2).toInt64) * (31 : Int64)) + j8.toInt64)), (2, .ref (ad k1))]) hx hb dX9_addMachine_69 hl (by decide) rfl (fun ls hl => ?_)
    obtain ⟨n23, h⟩ := h
    have L8 : ∀ (n : Nat) (v10 : Int32) (v11 : Int64) (H : Heap) (locs : List Loc) (ls : Array Slot), TW D ad cI cM s μ H locs → lv_has ls 7 [(5, .int v10), (3, .long v11), (2, .ref (ad k1))] → wpl_X9_addMachine_71 k1 μ Q n v10 v11 → W p l e (RM 2) s m #[.long a0, .ref (ad k1)] below meth c H locs 0 0 Z (F0 m 71 ls []) := by
      intro n
      induction n with
      | zero => intro v10 v11 H locs ls hw hl h; exact False.elim h
      | succ n ih8 =>
        intro v10 v11 H locs ls hw hl h
        change ((μ k1 1) ≤ v10 → (Q v11)) ∧ (¬ (μ k1 1) ≤ v10 → (∃ n12x, wpl_X9_addMachine_83 k1 μ v10 (fun (u22 : Int64) => wpl_X9_addMachine_71 k1 μ Q n (v10 + (1 : Int32)) u22) n12x (0 : Int32) v11)) at h
        refine lv_iload hx hb dX9_addMachine_71 (lv_at hl 0 rfl) ?_
        refine lv_aload_n hx hb dX9_addMachine_73 rfl (lv_at hl 2 rfl) ?_
        refine gf_X9_151 hx hb ht hown hK hw hk1 dX9_addMachine_74 ?_
        refine lv_icmp_ge (tgt := 117) hx hb dX9_addMachine_77 (by decide) (fun c12 => ?_) (fun c12 => ?_)
        · have h := h.1 c12
          refine lv_lload_n hx hb dX9_addMachine_117 rfl (lv_at hl 1 rfl) ?_
          exact hret H locs ls 118 _ _ hw ⟨rfl, h⟩ dX9_addMachine_118
        have h := h.2 c12
        refine lv_iconst (v := (0 : Int32)) hx hb dX9_addMachine_80 (by decide) ?_
        refine lv_istore (lv' := [(6, .int (0 : Int32)), (5, .int v10), (3, .long v11), (2, .ref (ad k1))]) hx hb dX9_addMachine_81 hl (by decide) rfl (fun ls hl => ?_)
        obtain ⟨n21, h⟩ := h
        have L12 : ∀ (v15 : Int32) (K111 : Int64 → Prop), (∀ (v16 : Int64) (H : Heap) (locs : List Loc) (ls : Array Slot), TW D ad cI cM s μ H locs → lv_has ls 7 [(5, .int v15), (3, .long v16), (2, .ref (ad k1))] → K111 v16 → W p l e (RM 2) s m #[.long a0, .ref (ad k1)] below meth c H locs 0 0 Z (F0 m 111 ls [])) → ∀ (n : Nat) (v14 : Int32) (v16 : Int64) (H : Heap) (locs : List Loc) (ls : Array Slot), TW D ad cI cM s μ H locs → lv_has ls 7 [(6, .int v14), (5, .int v15), (3, .long v16), (2, .ref (ad k1))] → wpl_X9_addMachine_83 k1 μ v15 K111 n v14 v16 → W p l e (RM 2) s m #[.long a0, .ref (ad k1)] below meth c H locs 0 0 Z (F0 m 83 ls []) := by
          intro v15 K111 hK111
          intro n
          induction n with
          | zero => intro v14 v16 H locs ls hw hl h; exact False.elim h
          | succ n ih12 =>
            intro v14 v16 H locs ls hw hl h
            change ((3 : Int32) ≤ v14 → (K111 v16)) ∧ (¬ (3 : Int32) ≤ v14 → (wp_X7_at k1 μ v15 v14 (fun (r18 : Int32) => wpl_X9_addMachine_83 k1 μ v15 K111 n (v14 + (1 : Int32)) ((v16 * (31 : Int64)) + r18.toInt64)))) at h
            refine lv_iload hx hb dX9_addMachine_83 (lv_at hl 0 rfl) ?_
            refine lv_iconst (v := (3 : Int32)) hx hb dX9_addMachine_85 (by decide) ?_
            refine lv_icmp_ge (tgt := 111) hx hb dX9_addMachine_86 (by decide) (fun c17 => ?_) (fun c17 => ?_)
            · have h := h.1 c17
              exact hK111 v16 H locs ls hw (lv_sub hl [1, 2, 3] rfl) h
            have h := h.2 c17
            refine lv_lload_n hx hb dX9_addMachine_89 rfl (lv_at hl 2 rfl) ?_
            refine lv_ldc2 (v := (31 : Int64)) hx hb hown (ht _ q_558) dX9_addMachine_90 ?_
            refine lv_lmul hx hb dX9_addMachine_93 ?_
            refine lv_aload_n hx hb dX9_addMachine_94 rfl (lv_at hl 3 rfl) ?_
            refine lv_iload hx hb dX9_addMachine_95 (lv_at hl 1 rfl) ?_
            refine lv_iload hx hb dX9_addMachine_97 (lv_at hl 0 rfl) ?_
            refine T_calli hw (va_runU (own := "Leastreader") (As := [.int v15, .int v14]) (rest := [.long (v16 * (31 : Int64))]) ⟨hx, hb, hml, hown, ht⟩ (c_X7_at_2 k1 hk1 μ H.size v15 v14 h) (va_cwU (owner := "Leastreader$Table") 2 ht (G_U q_573 q_413 q_415 q_416 q_47 q_417) rfl rfl rfl rfl hd_0 ⟨Nat.le_of_ble_eq_true rfl, Nat.le_of_ble_eq_true rfl⟩) ⟨TB.blind, (T_recv hK hw (kd_of hk1 (by decide)) (ent_2 hk1) cl_2), TB.pre hK hN hw⟩ rfl rfl hl.1 rfl (lv_room (Nat.le_of_ble_eq_true rfl)) dX9_addMachine_99 ⟨Nat.le_of_ble_eq_true rfl, Nat.le_of_ble_eq_true rfl⟩) (fun r18 μ19 H locs h hw => ?_)
            obtain ⟨e20, h⟩ := h
            rw [e20] at hw
            refine lv_i2l hx hb dX9_addMachine_102 rfl ?_
            refine lv_ladd hx hb dX9_addMachine_103 ?_
            refine lv_lstore_n (lv' := [(3, .long ((v16 * (31 : Int64)) + r18.toInt64)), (6, .int v14), (5, .int v15), (2, .ref (ad k1))]) hx hb dX9_addMachine_104 rfl hl (by decide) rfl (fun ls hl => ?_)
            refine lv_iinc (v := (v14 + (1 : Int32))) (lv' := [(6, .int (v14 + (1 : Int32))), (3, .long ((v16 * (31 : Int64)) + r18.toInt64)), (5, .int v15), (2, .ref (ad k1))]) hx hb dX9_addMachine_105 hl (k := 1) rfl rfl (by decide) rfl (fun ls hl => ?_)
            refine lv_goto (tgt := 83) hx hb dX9_addMachine_108 (by decide) ?_
            exact ih12 (v14 + (1 : Int32)) ((v16 * (31 : Int64)) + r18.toInt64) H locs ls hw (lv_sub hl [0, 2, 1, 3] rfl) h
        refine L12 v10 _ ?_ n21 (0 : Int32) v11 H locs ls hw (lv_sub hl [0, 1, 2, 3] rfl) h
        intro u22 H locs ls hw hl h
        refine lv_iinc (v := (v10 + (1 : Int32))) (lv' := [(5, .int (v10 + (1 : Int32))), (3, .long u22), (2, .ref (ad k1))]) hx hb dX9_addMachine_111 hl (k := 0) rfl rfl (by decide) rfl (fun ls hl => ?_)
        refine lv_goto (tgt := 71) hx hb dX9_addMachine_114 (by decide) ?_
        exact ih8 (v10 + (1 : Int32)) u22 H locs ls hw (lv_sub hl [0, 1, 2] rfl) h
    exact L8 n23 (0 : Int32) ((((((((((a0 * (31 : Int64)) + (μ k1 1).toInt64) * (31 : Int64)) + r1.toInt64) * (31 : Int64)) + (μ k1 3).toInt64) * (31 : Int64)) + (μ k1 2).toInt64) * (31 : Int64)) + j8.toInt64) H locs ls hw (lv_sub hl [0, 1, 2] rfl) h)
  refine lv_if_eq (tgt := 64) hx hb dX9_addMachine_57 (by decide) (fun c24 => ?_) (fun c24 => ?_)
  · have h := h.1 c24
    refine lv_iconst (v := (0 : Int32)) hx hb dX9_addMachine_64 (by decide) ?_
    exact h H locs ls hw (lv_sub hl [2] rfl)
  have h := h.2 c24
  refine lv_iconst (v := (1 : Int32)) hx hb dX9_addMachine_60 (by decide) ?_
  refine lv_goto (tgt := 65) hx hb dX9_addMachine_61 (by decide) ?_
  exact h H locs ls hw (lv_sub hl [2] rfl)
end
/-! part 26.m7 -/
section
def wp_X0_restart (μ : TMem) (a1 : Int32) (Q : TMem → Prop) : Prop :=
  Q (tms μ 14 0 a1)
set_option maxHeartbeats 4000000 in
set_option maxRecDepth 100000 in
theorem c_X0_restart {l : Launch} {D : va_G} {ad : Nat → Nat} {cI cM : ClassId}  (μ : TMem) (sz : Nat) (a1 : Int32) {Q : TMem → Prop} (h : wp_X0_restart μ a1 Q) : TMv l yX0_restart (.code yX0_restart cX0_restart 2 (Option.none : Option Jvm.ClassFile.FieldType)) 0 [.ref (ad 14), .int a1] D ad cI cM sz μ Q := by
  refine T_metv (by decide +kernel) (Nat.le_of_ble_eq_true rfl) ?_
  intro p e s m below meth c Z ls hx hb hml hown ht hN hK hw hret hl
  have hl : lv_has ls 2 [(0, .ref (ad 14)), (1, .int a1)] := hl
  generalize s.heap = H at hw ⊢
  generalize ([] : List Loc) = locs at hw ⊢
  change Q (tms μ 14 0 a1) at h
  refine lv_aload_n hx hb dX0_restart_0 rfl (lv_at hl 0 rfl) ?_
  refine lv_iload_n hx hb dX0_restart_1 rfl (lv_at hl 1 rfl) ?_
  refine pgf_X0_7 hx hb ht hown hK hw rfl dX0_restart_2 (fun H locs hw => ?_)
  exact hret H locs ls 5 _ hw h dX0_restart_5
def wp_X0_draw (μ : TMem) (Q : Int32 → TMem → Prop) : Prop :=
  Q (((tms μ 14 0 ((((μ 14 0) * (25173 : Int32)) + (13849 : Int32)) - (((μ 14 0) * (25173 : Int32)) + (13849 : Int32)) / (65536 : Int32) * (65536 : Int32))) 14 0) / (64 : Int32)) (tms μ 14 0 ((((μ 14 0) * (25173 : Int32)) + (13849 : Int32)) - (((μ 14 0) * (25173 : Int32)) + (13849 : Int32)) / (65536 : Int32) * (65536 : Int32)))
set_option maxHeartbeats 4000000 in
set_option maxRecDepth 100000 in
theorem c_X0_draw {l : Launch} {D : va_G} {ad : Nat → Nat} {cI cM : ClassId}  (μ : TMem) (sz : Nat)  {Q : Int32 → TMem → Prop} (h : wp_X0_draw μ Q) : TMi l yX0_draw (.code yX0_draw cX0_draw 1 (Option.some Jvm.ClassFile.FieldType.int)) 0 [.ref (ad 14)] D ad cI cM sz μ Q := by
  refine T_meti (by decide +kernel) (Nat.le_of_ble_eq_true rfl) ?_
  intro p e s m below meth c Z ls hx hb hml hown ht hN hK hw hret hl
  have hl : lv_has ls 1 [(0, .ref (ad 14))] := hl
  generalize s.heap = H at hw ⊢
  generalize ([] : List Loc) = locs at hw ⊢
  change Q (((tms μ 14 0 ((((μ 14 0) * (25173 : Int32)) + (13849 : Int32)) - (((μ 14 0) * (25173 : Int32)) + (13849 : Int32)) / (65536 : Int32) * (65536 : Int32))) 14 0) / (64 : Int32)) (tms μ 14 0 ((((μ 14 0) * (25173 : Int32)) + (13849 : Int32)) - (((μ 14 0) * (25173 : Int32)) + (13849 : Int32)) / (65536 : Int32) * (65536 : Int32))) at h
  refine lv_aload_n hx hb dX0_draw_0 rfl (lv_at hl 0 rfl) ?_
  refine lv_aload_n hx hb dX0_draw_1 rfl (lv_at hl 0 rfl) ?_
  refine gf_X0_7 hx hb ht hown hK hw rfl dX0_draw_2 ?_
  refine lv_sipush (v := (25173 : Int32)) hx hb dX0_draw_5 (by decide) ?_
  refine lv_imul hx hb dX0_draw_8 ?_
  refine lv_sipush (v := (13849 : Int32)) hx hb dX0_draw_9 (by decide) ?_
  refine lv_iadd hx hb dX0_draw_12 ?_
  refine lv_ldc (v := (65536 : Int32)) hx hb hown (ht _ q_683) dX0_draw_13 ?_
  refine lv_irem hx hb dX0_draw_15 (by decide) ?_
  refine pgf_X0_7 hx hb ht hown hK hw rfl dX0_draw_16 (fun H locs hw => ?_)
  refine lv_aload_n hx hb dX0_draw_19 rfl (lv_at hl 0 rfl) ?_
  refine gf_X0_7 hx hb ht hown hK hw rfl dX0_draw_20 ?_
  refine lv_bipush (v := (64 : Int32)) hx hb dX0_draw_23 (by decide) ?_
  refine lv_idiv hx hb dX0_draw_25 (by decide) ?_
  exact hret H locs ls 26 _ _ hw h rfl dX0_draw_26
def wpl_X1_ofOtherGoalness_4 (k0 : Nat) (μ : TMem) (v4 : Int32) (Q : Int32 → Prop) : Nat → Int32 → Int32 → Prop
  | 0, _, _ => False
  | n + 1, v2, v3 =>
    ((μ k0 1) ≤ v2 → (Q v3)) ∧ (¬ (μ k0 1) ≤ v2 → (wp_X5_isGoal k0 μ v2 (fun (r6 : Int32) => wp_X5_isGoal k0 μ v4 (fun (r9 : Int32) => (r6 = r9 → (wpl_X1_ofOtherGoalness_4 k0 μ v4 Q n (v2 + (1 : Int32)) v3)) ∧ (¬ r6 = r9 → (wpl_X1_ofOtherGoalness_4 k0 μ v4 Q n (v2 + (1 : Int32)) (v3 ||| ((1 : Int32) <<< (v2 &&& 31)))))))))
def wp_X1_ofOtherGoalness (k0 : Nat) (μ : TMem) (a1 : Int32) (Q : Int32 → Prop) : Prop :=
  ∃ n0x, wpl_X1_ofOtherGoalness_4 k0 μ a1 Q n0x (0 : Int32) (0 : Int32)
set_option maxHeartbeats 4000000 in
set_option maxRecDepth 100000 in
theorem c_X1_ofOtherGoalness {l : Launch} {D : va_G} {ad : Nat → Nat} {cI cM : ClassId} (k0 : Nat) (hk0 : kd k0 = 5) (μ : TMem) (sz : Nat) (a1 : Int32) {Q : Int32 → Prop} (h : wp_X1_ofOtherGoalness k0 μ a1 Q) : TMi l yX1_ofOtherGoalness (.code yX1_ofOtherGoalness cX1_ofOtherGoalness 4 (Option.some Jvm.ClassFile.FieldType.int)) 2 [.ref (ad k0), .int a1] D ad cI cM sz μ (fun r μ1 => μ1 = μ ∧ Q r) := by
  refine T_meti (by decide +kernel) (Nat.le_of_ble_eq_true rfl) ?_
  intro p e s m below meth c Z ls hx hb hml hown ht hN hK hw hret hl
  have hl : lv_has ls 4 [(0, .ref (ad k0)), (1, .int a1)] := hl
  generalize s.heap = H at hw ⊢
  generalize ([] : List Loc) = locs at hw ⊢
  change ∃ n0x, wpl_X1_ofOtherGoalness_4 k0 μ a1 Q n0x (0 : Int32) (0 : Int32) at h
  refine lv_iconst (v := (0 : Int32)) hx hb dX1_ofOtherGoalness_0 (by decide) ?_
  refine lv_istore_n (lv' := [(2, .int (0 : Int32)), (0, .ref (ad k0)), (1, .int a1)]) hx hb dX1_ofOtherGoalness_1 rfl hl (by decide) rfl (fun ls hl => ?_)
  refine lv_iconst (v := (0 : Int32)) hx hb dX1_ofOtherGoalness_2 (by decide) ?_
  refine lv_istore_n (lv' := [(3, .int (0 : Int32)), (2, .int (0 : Int32)), (0, .ref (ad k0)), (1, .int a1)]) hx hb dX1_ofOtherGoalness_3 rfl hl (by decide) rfl (fun ls hl => ?_)
  obtain ⟨n13, h⟩ := h
  have L0 : ∀ (v4 : Int32), ∀ (n : Nat) (v2 : Int32) (v3 : Int32) (H : Heap) (locs : List Loc) (ls : Array Slot), TW D ad cI cM s μ H locs → lv_has ls 4 [(3, .int v2), (2, .int v3), (0, .ref (ad k0)), (1, .int v4)] → wpl_X1_ofOtherGoalness_4 k0 μ v4 Q n v2 v3 → W p l e (RM 2) s m #[.ref (ad k0), .int a1] below meth c H locs 0 0 Z (F0 m 4 ls []) := by
    intro v4
    intro n
    induction n with
    | zero => intro v2 v3 H locs ls hw hl h; exact False.elim h
    | succ n ih0 =>
      intro v2 v3 H locs ls hw hl h
      change ((μ k0 1) ≤ v2 → (Q v3)) ∧ (¬ (μ k0 1) ≤ v2 → (wp_X5_isGoal k0 μ v2 (fun (r6 : Int32) => wp_X5_isGoal k0 μ v4 (fun (r9 : Int32) => (r6 = r9 → (wpl_X1_ofOtherGoalness_4 k0 μ v4 Q n (v2 + (1 : Int32)) v3)) ∧ (¬ r6 = r9 → (wpl_X1_ofOtherGoalness_4 k0 μ v4 Q n (v2 + (1 : Int32)) (v3 ||| ((1 : Int32) <<< (v2 &&& 31))))))))) at h
      refine lv_iload_n hx hb dX1_ofOtherGoalness_4 rfl (lv_at hl 0 rfl) ?_
      refine lv_aload_n hx hb dX1_ofOtherGoalness_5 rfl (lv_at hl 2 rfl) ?_
      refine gf_X1_30 hx hb ht hown hK hw hk0 dX1_ofOtherGoalness_6 ?_
      refine lv_icmp_ge (tgt := 37) hx hb dX1_ofOtherGoalness_9 (by decide) (fun c5 => ?_) (fun c5 => ?_)
      · have h := h.1 c5
        refine lv_iload_n hx hb dX1_ofOtherGoalness_37 rfl (lv_at hl 1 rfl) ?_
        exact hret H locs ls 38 _ _ hw ⟨rfl, h⟩ rfl dX1_ofOtherGoalness_38
      have h := h.2 c5
      refine lv_aload_n hx hb dX1_ofOtherGoalness_12 rfl (lv_at hl 2 rfl) ?_
      refine lv_iload_n hx hb dX1_ofOtherGoalness_13 rfl (lv_at hl 0 rfl) ?_
      refine T_calli hw (va_runV (own := "Leastreader$Likeness") (As := [.int v2]) (rest := []) ⟨hx, hb, hml, hown, ht⟩ (c_X5_isGoal k0 hk0 μ H.size v2 h) (cwV 1 ht (G_V q_461 q_462 q_463 q_53 q_464) rfl rfl rfl ⟨rfl, hd_18⟩ ⟨Nat.le_of_ble_eq_true rfl, Nat.le_of_ble_eq_true rfl⟩) ⟨TB.blind, (T_recv hK hw (kd_of hk0 (by decide)) (ent_5 hk0) cl_5), TB.pre hK hN hw⟩ rfl rfl hl.1 rfl (lv_room (Nat.le_of_ble_eq_true rfl)) dX1_ofOtherGoalness_14 ⟨Nat.le_of_ble_eq_true rfl, Nat.le_of_ble_eq_true rfl⟩) (fun r6 μ7 H locs h hw => ?_)
      obtain ⟨e8, h⟩ := h
      rw [e8] at hw
      refine lv_aload_n hx hb dX1_ofOtherGoalness_17 rfl (lv_at hl 2 rfl) ?_
      refine lv_iload_n hx hb dX1_ofOtherGoalness_18 rfl (lv_at hl 3 rfl) ?_
      refine T_calli hw (va_runV (own := "Leastreader$Likeness") (As := [.int v4]) (rest := [.int r6]) ⟨hx, hb, hml, hown, ht⟩ (c_X5_isGoal k0 hk0 μ H.size v4 h) (cwV 1 ht (G_V q_461 q_462 q_463 q_53 q_464) rfl rfl rfl ⟨rfl, hd_18⟩ ⟨Nat.le_of_ble_eq_true rfl, Nat.le_of_ble_eq_true rfl⟩) ⟨TB.blind, (T_recv hK hw (kd_of hk0 (by decide)) (ent_5 hk0) cl_5), TB.pre hK hN hw⟩ rfl rfl hl.1 rfl (lv_room (Nat.le_of_ble_eq_true rfl)) dX1_ofOtherGoalness_19 ⟨Nat.le_of_ble_eq_true rfl, Nat.le_of_ble_eq_true rfl⟩) (fun r9 μ10 H locs h hw => ?_)
      obtain ⟨e11, h⟩ := h
      rw [e11] at hw
      refine lv_icmp_eq (tgt := 31) hx hb dX1_ofOtherGoalness_22 (by decide) (fun c12 => ?_) (fun c12 => ?_)
      · have h := h.1 c12
        refine lv_iinc (v := (v2 + (1 : Int32))) (lv' := [(3, .int (v2 + (1 : Int32))), (2, .int v3), (0, .ref (ad k0)), (1, .int v4)]) hx hb dX1_ofOtherGoalness_31 hl (k := 0) rfl rfl (by decide) rfl (fun ls hl => ?_)
        refine lv_goto (tgt := 4) hx hb dX1_ofOtherGoalness_34 (by decide) ?_
        exact ih0 (v2 + (1 : Int32)) v3 H locs ls hw (lv_sub hl [0, 1, 2, 3] rfl) h
      have h := h.2 c12
      refine lv_iload_n hx hb dX1_ofOtherGoalness_25 rfl (lv_at hl 1 rfl) ?_
      refine lv_iconst (v := (1 : Int32)) hx hb dX1_ofOtherGoalness_26 (by decide) ?_
      refine lv_iload_n hx hb dX1_ofOtherGoalness_27 rfl (lv_at hl 0 rfl) ?_
      refine lv_ishl hx hb dX1_ofOtherGoalness_28 ?_
      refine lv_ior hx hb dX1_ofOtherGoalness_29 ?_
      refine lv_istore_n (lv' := [(2, .int (v3 ||| ((1 : Int32) <<< (v2 &&& 31)))), (3, .int v2), (0, .ref (ad k0)), (1, .int v4)]) hx hb dX1_ofOtherGoalness_30 rfl hl (by decide) rfl (fun ls hl => ?_)
      refine lv_iinc (v := (v2 + (1 : Int32))) (lv' := [(3, .int (v2 + (1 : Int32))), (2, .int (v3 ||| ((1 : Int32) <<< (v2 &&& 31)))), (0, .ref (ad k0)), (1, .int v4)]) hx hb dX1_ofOtherGoalness_31 hl (k := 1) rfl rfl (by decide) rfl (fun ls hl => ?_)
      refine lv_goto (tgt := 4) hx hb dX1_ofOtherGoalness_34 (by decide) ?_
      exact ih0 (v2 + (1 : Int32)) (v3 ||| ((1 : Int32) <<< (v2 &&& 31))) H locs ls hw (lv_sub hl [0, 1, 2, 3] rfl) h
  exact L0 a1 n13 (0 : Int32) (0 : Int32) H locs ls hw (lv_sub hl [0, 1, 2, 3] rfl) h
def wpl_X1_isLeadingToUnlike_3 (k1 : Nat) (μ : TMem) (v3 : Int32) (v4 : Int32) (Q : Int32 → Prop) : Nat → Int32 → Prop
  | 0, _ => False
  | n + 1, v2 =>
    ((3 : Int32) ≤ v2 → (Q (0 : Int32))) ∧ (¬ (3 : Int32) ≤ v2 → (wp_X7_at k1 μ v3 v2 (fun (r6 : Int32) => wp_X6_at 27 μ r6 (fun (r9 : Int32) => wp_X7_at k1 μ v4 v2 (fun (r12 : Int32) => wp_X9_isIn r9 r12 (fun (r15 : Int32) => (r15 = 0 → (wpl_X1_isLeadingToUnlike_3 k1 μ v3 v4 Q n (v2 + (1 : Int32)))) ∧ (¬ r15 = 0 → (Q (1 : Int32)))))))))
def wp_X1_isLeadingToUnlike (k1 : Nat) (μ : TMem) (a2 : Int32) (a3 : Int32) (Q : Int32 → Prop) : Prop :=
  ∃ n0x, wpl_X1_isLeadingToUnlike_3 k1 μ a2 a3 Q n0x (0 : Int32)
set_option maxHeartbeats 4000000 in
set_option maxRecDepth 100000 in
theorem c_X1_isLeadingToUnlike {l : Launch} {D : va_G} {ad : Nat → Nat} {cI cM : ClassId} (k1 : Nat) (hk1 : kd k1 = 5) (μ : TMem) (sz : Nat) (a2 : Int32) (a3 : Int32) {Q : Int32 → Prop} (h : wp_X1_isLeadingToUnlike k1 μ a2 a3 Q) : TMi l yX1_isLeadingToUnlike (.code yX1_isLeadingToUnlike cX1_isLeadingToUnlike 5 (Option.some Jvm.ClassFile.FieldType.boolean)) 1 [.ref (ad 22), .ref (ad k1), .int a2, .int a3] D ad cI cM sz μ (fun r μ1 => μ1 = μ ∧ Q r) := by
  refine T_meti (by decide +kernel) (Nat.le_of_ble_eq_true rfl) ?_
  intro p e s m below meth c Z ls hx hb hml hown ht hN hK hw hret hl
  have hl : lv_has ls 5 [(0, .ref (ad 22)), (1, .ref (ad k1)), (2, .int a2), (3, .int a3)] := hl
  generalize s.heap = H at hw ⊢
  generalize ([] : List Loc) = locs at hw ⊢
  change ∃ n0x, wpl_X1_isLeadingToUnlike_3 k1 μ a2 a3 Q n0x (0 : Int32) at h
  refine lv_iconst (v := (0 : Int32)) hx hb dX1_isLeadingToUnlike_0 (by decide) ?_
  refine lv_istore (lv' := [(4, .int (0 : Int32)), (0, .ref (ad 22)), (1, .ref (ad k1)), (2, .int a2), (3, .int a3)]) hx hb dX1_isLeadingToUnlike_1 hl (by decide) rfl (fun ls hl => ?_)
  obtain ⟨n17, h⟩ := h
  have L0 : ∀ (v3 : Int32) (v4 : Int32), ∀ (n : Nat) (v2 : Int32) (H : Heap) (locs : List Loc) (ls : Array Slot), TW D ad cI cM s μ H locs → lv_has ls 5 [(4, .int v2), (0, .ref (ad 22)), (1, .ref (ad k1)), (2, .int v3), (3, .int v4)] → wpl_X1_isLeadingToUnlike_3 k1 μ v3 v4 Q n v2 → W p l e (RM 1) s m #[.ref (ad 22), .ref (ad k1), .int a2, .int a3] below meth c H locs 0 0 Z (F0 m 3 ls []) := by
    intro v3 v4
    intro n
    induction n with
    | zero => intro v2 H locs ls hw hl h; exact False.elim h
    | succ n ih0 =>
      intro v2 H locs ls hw hl h
      change ((3 : Int32) ≤ v2 → (Q (0 : Int32))) ∧ (¬ (3 : Int32) ≤ v2 → (wp_X7_at k1 μ v3 v2 (fun (r6 : Int32) => wp_X6_at 27 μ r6 (fun (r9 : Int32) => wp_X7_at k1 μ v4 v2 (fun (r12 : Int32) => wp_X9_isIn r9 r12 (fun (r15 : Int32) => (r15 = 0 → (wpl_X1_isLeadingToUnlike_3 k1 μ v3 v4 Q n (v2 + (1 : Int32)))) ∧ (¬ r15 = 0 → (Q (1 : Int32))))))))) at h
      refine lv_iload hx hb dX1_isLeadingToUnlike_3 (lv_at hl 0 rfl) ?_
      refine lv_iconst (v := (3 : Int32)) hx hb dX1_isLeadingToUnlike_5 (by decide) ?_
      refine lv_icmp_ge (tgt := 44) hx hb dX1_isLeadingToUnlike_6 (by decide) (fun c5 => ?_) (fun c5 => ?_)
      · have h := h.1 c5
        refine lv_iconst (v := (0 : Int32)) hx hb dX1_isLeadingToUnlike_44 (by decide) ?_
        exact hret H locs ls 45 _ _ hw ⟨rfl, h⟩ rfl dX1_isLeadingToUnlike_45
      have h := h.2 c5
      refine lv_aload_n hx hb dX1_isLeadingToUnlike_9 rfl (lv_at hl 1 rfl) ?_
      refine gf_X1_23 hx hb ht hown hK hw rfl dX1_isLeadingToUnlike_10 ?_
      refine W.eq (g2 := F0 m 13 ls [.ref (ad 27)]) rfl ?_
      refine lv_aload_n hx hb dX1_isLeadingToUnlike_13 rfl (lv_at hl 2 rfl) ?_
      refine lv_iload_n hx hb dX1_isLeadingToUnlike_14 rfl (lv_at hl 3 rfl) ?_
      refine lv_iload hx hb dX1_isLeadingToUnlike_15 (lv_at hl 0 rfl) ?_
      refine T_calli hw (va_runU (own := "Leastreader$Likeness") (As := [.int v3, .int v2]) (rest := [.ref (ad 27)]) ⟨hx, hb, hml, hown, ht⟩ (c_X7_at_5 k1 hk1 μ H.size v3 v2 h) (va_cwU (owner := "Leastreader$Table") 2 ht (G_U q_477 q_452 q_453 q_416 q_47 q_417) rfl rfl rfl rfl hd_0 ⟨Nat.le_of_ble_eq_true rfl, Nat.le_of_ble_eq_true rfl⟩) ⟨TB.blind, (T_recv hK hw (kd_of hk1 (by decide)) (ent_5 hk1) cl_5), TB.pre hK hN hw⟩ rfl rfl hl.1 rfl (lv_room (Nat.le_of_ble_eq_true rfl)) dX1_isLeadingToUnlike_17 ⟨Nat.le_of_ble_eq_true rfl, Nat.le_of_ble_eq_true rfl⟩) (fun r6 μ7 H locs h hw => ?_)
      obtain ⟨e8, h⟩ := h
      rw [e8] at hw
      refine T_calli hw (va_runV (own := "Leastreader$Likeness") (As := [.int r6]) (rest := []) ⟨hx, hb, hml, hown, ht⟩ (c_X6_at 27 rfl μ H.size r6 h) (cwV 1 ht (G_V q_471 q_399 q_400 q_51 q_401) rfl rfl rfl ⟨rfl, hd_8⟩ ⟨Nat.le_of_ble_eq_true rfl, Nat.le_of_ble_eq_true rfl⟩) ⟨TB.blind, (T_recv hK hw (kd_of rfl (by decide)) (ent_6 rfl) cl_6), TB.pre hK hN hw⟩ rfl rfl hl.1 rfl (lv_room (Nat.le_of_ble_eq_true rfl)) dX1_isLeadingToUnlike_20 ⟨Nat.le_of_ble_eq_true rfl, Nat.le_of_ble_eq_true rfl⟩) (fun r9 μ10 H locs h hw => ?_)
      obtain ⟨e11, h⟩ := h
      rw [e11] at hw
      refine lv_aload_n hx hb dX1_isLeadingToUnlike_23 rfl (lv_at hl 2 rfl) ?_
      refine lv_iload_n hx hb dX1_isLeadingToUnlike_24 rfl (lv_at hl 4 rfl) ?_
      refine lv_iload hx hb dX1_isLeadingToUnlike_25 (lv_at hl 0 rfl) ?_
      refine T_calli hw (va_runU (own := "Leastreader$Likeness") (As := [.int v4, .int v2]) (rest := [.int r9]) ⟨hx, hb, hml, hown, ht⟩ (c_X7_at_5 k1 hk1 μ H.size v4 v2 h) (va_cwU (owner := "Leastreader$Table") 2 ht (G_U q_477 q_452 q_453 q_416 q_47 q_417) rfl rfl rfl rfl hd_0 ⟨Nat.le_of_ble_eq_true rfl, Nat.le_of_ble_eq_true rfl⟩) ⟨TB.blind, (T_recv hK hw (kd_of hk1 (by decide)) (ent_5 hk1) cl_5), TB.pre hK hN hw⟩ rfl rfl hl.1 rfl (lv_room (Nat.le_of_ble_eq_true rfl)) dX1_isLeadingToUnlike_27 ⟨Nat.le_of_ble_eq_true rfl, Nat.le_of_ble_eq_true rfl⟩) (fun r12 μ13 H locs h hw => ?_)
      obtain ⟨e14, h⟩ := h
      rw [e14] at hw
      refine P_calli (va_runSN (own := "Leastreader$Likeness") (As := [.int r9, .int r12]) (rest := []) ⟨hx, hb, hml, hown, ht⟩ (c_X9_isIn r9 r12 h) ⟨va_cnB 2 ht (G_ws q_411) rfl rfl rfl (nw_472 hN) (ht _ q_46) hd_5 ⟨Nat.le_of_ble_eq_true rfl, Nat.le_of_ble_eq_true rfl⟩, ht _ q_410, trivial⟩ ⟨PM_blind, PM_pre⟩ rfl rfl hl.1 rfl (lv_room (Nat.le_of_ble_eq_true rfl)) dX1_isLeadingToUnlike_30 ⟨Nat.le_of_ble_eq_true rfl, Nat.le_of_ble_eq_true rfl⟩) (fun r15 h => ?_)
      refine lv_if_eq (tgt := 38) hx hb dX1_isLeadingToUnlike_33 (by decide) (fun c16 => ?_) (fun c16 => ?_)
      · have h := h.1 c16
        refine lv_iinc (v := (v2 + (1 : Int32))) (lv' := [(4, .int (v2 + (1 : Int32))), (0, .ref (ad 22)), (1, .ref (ad k1)), (2, .int v3), (3, .int v4)]) hx hb dX1_isLeadingToUnlike_38 hl (k := 0) rfl rfl (by decide) rfl (fun ls hl => ?_)
        refine lv_goto (tgt := 3) hx hb dX1_isLeadingToUnlike_41 (by decide) ?_
        exact ih0 (v2 + (1 : Int32)) H locs ls hw (lv_sub hl [0, 1, 2, 3, 4] rfl) h
      have h := h.2 c16
      refine lv_iconst (v := (1 : Int32)) hx hb dX1_isLeadingToUnlike_36 (by decide) ?_
      exact hret H locs ls 37 _ _ hw ⟨rfl, h⟩ rfl dX1_isLeadingToUnlike_37
  exact L0 a2 a3 n17 (0 : Int32) H locs ls hw (lv_sub hl [0, 1, 2, 3, 4] rfl) h
def wpl_X1_tellFurther_15 (k1 : Nat) (v9 : Int32) (K99 : Int32 → TMem → Prop) : Nat → Int32 → Int32 → TMem → Prop
  | 0, _, _, _ => False
  | n + 1, v8, v10, μ11 =>
    (v9 ≤ v8 → (K99 v10 μ11)) ∧ (¬ v9 ≤ v8 → (wp_X6_at 27 μ11 v9 (fun (r13 : Int32) => wp_X9_isIn r13 v8 (fun (r16 : Int32) => (¬ r16 = 0 → (wpl_X1_tellFurther_15 k1 v9 K99 n (v8 + (1 : Int32)) v10 μ11)) ∧ (r16 = 0 → (wp_X1_isLeadingToUnlike k1 μ11 v9 v8 (fun (r18 : Int32) => (r18 = 0 → (wpl_X1_tellFurther_15 k1 v9 K99 n (v8 + (1 : Int32)) v10 μ11)) ∧ (¬ r18 = 0 → (wp_X6_at 27 μ11 v9 (fun (r22 : Int32) => wp_X6_put 27 μ11 v9 (r22 ||| ((1 : Int32) <<< (v8 &&& 31))) (fun (μ25 : TMem) => wp_X6_at 27 μ25 v8 (fun (r26 : Int32) => wp_X6_put 27 μ25 v8 (r26 ||| ((1 : Int32) <<< (v9 &&& 31))) (fun (μ29 : TMem) => wpl_X1_tellFurther_15 k1 v9 K99 n (v8 + (1 : Int32)) (1 : Int32) μ29)))))))))))))
def wpl_X1_tellFurther_4 (k1 : Nat) (Q : Int32 → TMem → Prop) : Nat → Int32 → Int32 → TMem → Prop
  | 0, _, _, _ => False
  | n + 1, v2, v3, μ4 =>
    ((μ4 k1 1) ≤ v2 → (isB v3 ∧ Q v3 μ4)) ∧ (¬ (μ4 k1 1) ≤ v2 → (∃ n6x, wpl_X1_tellFurther_15 k1 v2 (fun (u31 : Int32) (μ32 : TMem) => wpl_X1_tellFurther_4 k1 Q n (v2 + (1 : Int32)) u31 μ32) n6x (0 : Int32) v3 μ4))
def wp_X1_tellFurther (k1 : Nat) (μ : TMem) (Q : Int32 → TMem → Prop) : Prop :=
  ∃ n0x, wpl_X1_tellFurther_4 k1 Q n0x (0 : Int32) (0 : Int32) μ
set_option maxHeartbeats 4000000 in
set_option maxRecDepth 100000 in
theorem c_X1_tellFurther {l : Launch} {D : va_G} {ad : Nat → Nat} {cI cM : ClassId} (k1 : Nat) (hk1 : kd k1 = 5) (μ : TMem) (sz : Nat)  {Q : Int32 → TMem → Prop} (h : wp_X1_tellFurther k1 μ Q) : TMi l yX1_tellFurther (.code yX1_tellFurther cX1_tellFurther 5 (Option.some Jvm.ClassFile.FieldType.boolean)) 2 [.ref (ad 22), .ref (ad k1)] D ad cI cM sz μ Q := by
  refine T_meti (by decide +kernel) (Nat.le_of_ble_eq_true rfl) ?_
  intro p e s m below meth c Z ls hx hb hml hown ht hN hK hw hret hl
  have hl : lv_has ls 5 [(0, .ref (ad 22)), (1, .ref (ad k1))] := hl
  generalize s.heap = H at hw ⊢
  generalize ([] : List Loc) = locs at hw ⊢
  change ∃ n0x, wpl_X1_tellFurther_4 k1 Q n0x (0 : Int32) (0 : Int32) μ at h
  refine lv_iconst (v := (0 : Int32)) hx hb dX1_tellFurther_0 (by decide) ?_
  refine lv_istore_n (lv' := [(2, .int (0 : Int32)), (0, .ref (ad 22)), (1, .ref (ad k1))]) hx hb dX1_tellFurther_1 rfl hl (by decide) rfl (fun ls hl => ?_)
  refine lv_iconst (v := (0 : Int32)) hx hb dX1_tellFurther_2 (by decide) ?_
  refine lv_istore_n (lv' := [(3, .int (0 : Int32)), (2, .int (0 : Int32)), (0, .ref (ad 22)), (1, .ref (ad k1))]) hx hb dX1_tellFurther_3 rfl hl (by decide) rfl (fun ls hl => ?_)
  obtain ⟨n33, h⟩ := h
  have L0 : ∀ (n : Nat) (v2 : Int32) (v3 : Int32) (μ4 : TMem) (H : Heap) (locs : List Loc) (ls : Array Slot), TW D ad cI cM s μ4 H locs → lv_has ls 5 [(3, .int v2), (2, .int v3), (0, .ref (ad 22)), (1, .ref (ad k1))] → wpl_X1_tellFurther_4 k1 Q n v2 v3 μ4 → W p l e (RM 2) s m #[.ref (ad 22), .ref (ad k1)] below meth c H locs 0 0 Z (F0 m 4 ls []) := by
    intro n
    induction n with
    | zero => intro v2 v3 μ4 H locs ls hw hl h; exact False.elim h
    | succ n ih0 =>
      intro v2 v3 μ4 H locs ls hw hl h
      change ((μ4 k1 1) ≤ v2 → (isB v3 ∧ Q v3 μ4)) ∧ (¬ (μ4 k1 1) ≤ v2 → (∃ n6x, wpl_X1_tellFurther_15 k1 v2 (fun (u31 : Int32) (μ32 : TMem) => wpl_X1_tellFurther_4 k1 Q n (v2 + (1 : Int32)) u31 μ32) n6x (0 : Int32) v3 μ4)) at h
      refine lv_iload_n hx hb dX1_tellFurther_4 rfl (lv_at hl 0 rfl) ?_
      refine lv_aload_n hx hb dX1_tellFurther_5 rfl (lv_at hl 3 rfl) ?_
      refine gf_X1_30 hx hb ht hown hK hw hk1 dX1_tellFurther_6 ?_
      refine lv_icmp_ge (tgt := 105) hx hb dX1_tellFurther_9 (by decide) (fun c5 => ?_) (fun c5 => ?_)
      · have h := h.1 c5
        refine lv_iload_n hx hb dX1_tellFurther_105 rfl (lv_at hl 1 rfl) ?_
        obtain ⟨z6, h⟩ := h
        exact hret H locs ls 106 _ _ hw h (isB_n z6) dX1_tellFurther_106
      have h := h.2 c5
      refine lv_iconst (v := (0 : Int32)) hx hb dX1_tellFurther_12 (by decide) ?_
      refine lv_istore (lv' := [(4, .int (0 : Int32)), (3, .int v2), (2, .int v3), (0, .ref (ad 22)), (1, .ref (ad k1))]) hx hb dX1_tellFurther_13 hl (by decide) rfl (fun ls hl => ?_)
      obtain ⟨n30, h⟩ := h
      have L6 : ∀ (v9 : Int32) (K99 : Int32 → TMem → Prop), (∀ (v10 : Int32) (μ11 : TMem) (H : Heap) (locs : List Loc) (ls : Array Slot), TW D ad cI cM s μ11 H locs → lv_has ls 5 [(3, .int v9), (2, .int v10), (0, .ref (ad 22)), (1, .ref (ad k1))] → K99 v10 μ11 → W p l e (RM 2) s m #[.ref (ad 22), .ref (ad k1)] below meth c H locs 0 0 Z (F0 m 99 ls [])) → ∀ (n : Nat) (v8 : Int32) (v10 : Int32) (μ11 : TMem) (H : Heap) (locs : List Loc) (ls : Array Slot), TW D ad cI cM s μ11 H locs → lv_has ls 5 [(4, .int v8), (3, .int v9), (2, .int v10), (0, .ref (ad 22)), (1, .ref (ad k1))] → wpl_X1_tellFurther_15 k1 v9 K99 n v8 v10 μ11 → W p l e (RM 2) s m #[.ref (ad 22), .ref (ad k1)] below meth c H locs 0 0 Z (F0 m 15 ls []) := by
        intro v9 K99 hK99
        intro n
        induction n with
        | zero => intro v8 v10 μ11 H locs ls hw hl h; exact False.elim h
        | succ n ih6 =>
          intro v8 v10 μ11 H locs ls hw hl h
          change (v9 ≤ v8 → (K99 v10 μ11)) ∧ (¬ v9 ≤ v8 → (wp_X6_at 27 μ11 v9 (fun (r13 : Int32) => wp_X9_isIn r13 v8 (fun (r16 : Int32) => (¬ r16 = 0 → (wpl_X1_tellFurther_15 k1 v9 K99 n (v8 + (1 : Int32)) v10 μ11)) ∧ (r16 = 0 → (wp_X1_isLeadingToUnlike k1 μ11 v9 v8 (fun (r18 : Int32) => (r18 = 0 → (wpl_X1_tellFurther_15 k1 v9 K99 n (v8 + (1 : Int32)) v10 μ11)) ∧ (¬ r18 = 0 → (wp_X6_at 27 μ11 v9 (fun (r22 : Int32) => wp_X6_put 27 μ11 v9 (r22 ||| ((1 : Int32) <<< (v8 &&& 31))) (fun (μ25 : TMem) => wp_X6_at 27 μ25 v8 (fun (r26 : Int32) => wp_X6_put 27 μ25 v8 (r26 ||| ((1 : Int32) <<< (v9 &&& 31))) (fun (μ29 : TMem) => wpl_X1_tellFurther_15 k1 v9 K99 n (v8 + (1 : Int32)) (1 : Int32) μ29))))))))))))) at h
          refine lv_iload hx hb dX1_tellFurther_15 (lv_at hl 0 rfl) ?_
          refine lv_iload_n hx hb dX1_tellFurther_17 rfl (lv_at hl 1 rfl) ?_
          refine lv_icmp_ge (tgt := 99) hx hb dX1_tellFurther_18 (by decide) (fun c12 => ?_) (fun c12 => ?_)
          · have h := h.1 c12
            exact hK99 v10 μ11 H locs ls hw (lv_sub hl [1, 2, 3, 4] rfl) h
          have h := h.2 c12
          refine lv_aload_n hx hb dX1_tellFurther_21 rfl (lv_at hl 3 rfl) ?_
          refine gf_X1_23 hx hb ht hown hK hw rfl dX1_tellFurther_22 ?_
          refine W.eq (g2 := F0 m 25 ls [.ref (ad 27)]) rfl ?_
          refine lv_iload_n hx hb dX1_tellFurther_25 rfl (lv_at hl 1 rfl) ?_
          refine T_calli hw (va_runV (own := "Leastreader$Likeness") (As := [.int v9]) (rest := []) ⟨hx, hb, hml, hown, ht⟩ (c_X6_at 27 rfl μ11 H.size v9 h) (cwV 1 ht (G_V q_471 q_399 q_400 q_51 q_401) rfl rfl rfl ⟨rfl, hd_8⟩ ⟨Nat.le_of_ble_eq_true rfl, Nat.le_of_ble_eq_true rfl⟩) ⟨TB.blind, (T_recv hK hw (kd_of rfl (by decide)) (ent_6 rfl) cl_6), TB.pre hK hN hw⟩ rfl rfl hl.1 rfl (lv_room (Nat.le_of_ble_eq_true rfl)) dX1_tellFurther_26 ⟨Nat.le_of_ble_eq_true rfl, Nat.le_of_ble_eq_true rfl⟩) (fun r13 μ14 H locs h hw => ?_)
          obtain ⟨e15, h⟩ := h
          rw [e15] at hw
          refine lv_iload hx hb dX1_tellFurther_29 (lv_at hl 0 rfl) ?_
          refine P_calli (va_runSN (own := "Leastreader$Likeness") (As := [.int r13, .int v8]) (rest := []) ⟨hx, hb, hml, hown, ht⟩ (c_X9_isIn r13 v8 h) ⟨va_cnB 2 ht (G_ws q_411) rfl rfl rfl (nw_472 hN) (ht _ q_46) hd_5 ⟨Nat.le_of_ble_eq_true rfl, Nat.le_of_ble_eq_true rfl⟩, ht _ q_410, trivial⟩ ⟨PM_blind, PM_pre⟩ rfl rfl hl.1 rfl (lv_room (Nat.le_of_ble_eq_true rfl)) dX1_tellFurther_31 ⟨Nat.le_of_ble_eq_true rfl, Nat.le_of_ble_eq_true rfl⟩) (fun r16 h => ?_)
          refine lv_if_ne (tgt := 93) hx hb dX1_tellFurther_34 (by decide) (fun c17 => ?_) (fun c17 => ?_)
          · have h := h.1 c17
            refine lv_iinc (v := (v8 + (1 : Int32))) (lv' := [(4, .int (v8 + (1 : Int32))), (3, .int v9), (2, .int v10), (0, .ref (ad 22)), (1, .ref (ad k1))]) hx hb dX1_tellFurther_93 hl (k := 0) rfl rfl (by decide) rfl (fun ls hl => ?_)
            refine lv_goto (tgt := 15) hx hb dX1_tellFurther_96 (by decide) ?_
            exact ih6 (v8 + (1 : Int32)) v10 μ11 H locs ls hw (lv_sub hl [0, 1, 2, 3, 4] rfl) h
          have h := h.2 c17
          refine lv_aload_n hx hb dX1_tellFurther_37 rfl (lv_at hl 3 rfl) ?_
          refine lv_aload_n hx hb dX1_tellFurther_38 rfl (lv_at hl 4 rfl) ?_
          refine lv_iload_n hx hb dX1_tellFurther_39 rfl (lv_at hl 1 rfl) ?_
          refine lv_iload hx hb dX1_tellFurther_40 (lv_at hl 0 rfl) ?_
          refine T_calli hw (va_runV (own := "Leastreader$Likeness") (As := [.ref (ad k1), .int v9, .int v8]) (rest := []) ⟨hx, hb, hml, hown, ht⟩ (c_X1_isLeadingToUnlike k1 hk1 μ11 H.size v9 v8 h) (cwV 3 ht (G_V q_473 q_475 q_6 q_52 q_476) rfl rfl rfl ⟨rfl, hd_36⟩ ⟨Nat.le_of_ble_eq_true rfl, Nat.le_of_ble_eq_true rfl⟩) ⟨TB.blind, (T_recv hK hw (kd_of rfl (by decide)) (ent_1 rfl) cl_1), TB.pre hK hN hw⟩ rfl rfl hl.1 rfl (lv_room (Nat.le_of_ble_eq_true rfl)) dX1_tellFurther_42 ⟨Nat.le_of_ble_eq_true rfl, Nat.le_of_ble_eq_true rfl⟩) (fun r18 μ19 H locs h hw => ?_)
          obtain ⟨e20, h⟩ := h
          rw [e20] at hw
          refine lv_if_eq (tgt := 93) hx hb dX1_tellFurther_45 (by decide) (fun c21 => ?_) (fun c21 => ?_)
          · have h := h.1 c21
            refine lv_iinc (v := (v8 + (1 : Int32))) (lv' := [(4, .int (v8 + (1 : Int32))), (3, .int v9), (2, .int v10), (0, .ref (ad 22)), (1, .ref (ad k1))]) hx hb dX1_tellFurther_93 hl (k := 0) rfl rfl (by decide) rfl (fun ls hl => ?_)
            refine lv_goto (tgt := 15) hx hb dX1_tellFurther_96 (by decide) ?_
            exact ih6 (v8 + (1 : Int32)) v10 μ11 H locs ls hw (lv_sub hl [0, 1, 2, 3, 4] rfl) h
          have h := h.2 c21
          refine lv_aload_n hx hb dX1_tellFurther_48 rfl (lv_at hl 3 rfl) ?_
          refine gf_X1_23 hx hb ht hown hK hw rfl dX1_tellFurther_49 ?_
          refine W.eq (g2 := F0 m 52 ls [.ref (ad 27)]) rfl ?_
          refine lv_iload_n hx hb dX1_tellFurther_52 rfl (lv_at hl 1 rfl) ?_
          refine lv_aload_n hx hb dX1_tellFurther_53 rfl (lv_at hl 3 rfl) ?_
          refine gf_X1_23 hx hb ht hown hK hw rfl dX1_tellFurther_54 ?_
          refine W.eq (g2 := F0 m 57 ls [.ref (ad 27), .int v9, .ref (ad 27)]) rfl ?_
          refine lv_iload_n hx hb dX1_tellFurther_57 rfl (lv_at hl 1 rfl) ?_
          refine T_calli hw (va_runV (own := "Leastreader$Likeness") (As := [.int v9]) (rest := [.int v9, .ref (ad 27)]) ⟨hx, hb, hml, hown, ht⟩ (c_X6_at 27 rfl μ11 H.size v9 h) (cwV 1 ht (G_V q_471 q_399 q_400 q_51 q_401) rfl rfl rfl ⟨rfl, hd_8⟩ ⟨Nat.le_of_ble_eq_true rfl, Nat.le_of_ble_eq_true rfl⟩) ⟨TB.blind, (T_recv hK hw (kd_of rfl (by decide)) (ent_6 rfl) cl_6), TB.pre hK hN hw⟩ rfl rfl hl.1 rfl (lv_room (Nat.le_of_ble_eq_true rfl)) dX1_tellFurther_58 ⟨Nat.le_of_ble_eq_true rfl, Nat.le_of_ble_eq_true rfl⟩) (fun r22 μ23 H locs h hw => ?_)
          obtain ⟨e24, h⟩ := h
          rw [e24] at hw
          refine lv_iconst (v := (1 : Int32)) hx hb dX1_tellFurther_61 (by decide) ?_
          refine lv_iload hx hb dX1_tellFurther_62 (lv_at hl 0 rfl) ?_
          refine lv_ishl hx hb dX1_tellFurther_64 ?_
          refine lv_ior hx hb dX1_tellFurther_65 ?_
          refine T_callv hw (va_runV (own := "Leastreader$Likeness") (As := [.int v9, .int (r22 ||| ((1 : Int32) <<< (v8 &&& 31)))]) (rest := []) ⟨hx, hb, hml, hown, ht⟩ (c_X6_put 27 rfl μ11 H.size v9 (r22 ||| ((1 : Int32) <<< (v8 &&& 31))) h) (cwV 2 ht (G_V q_466 q_395 q_396 q_51 q_397) rfl rfl rfl ⟨rfl, hd_7⟩ ⟨Nat.le_of_ble_eq_true rfl, Nat.le_of_ble_eq_true rfl⟩) ⟨TB.blind, (T_recv hK hw (kd_of rfl (by decide)) (ent_6 rfl) cl_6), TB.pre hK hN hw⟩ rfl rfl hl.1 rfl (lv_room (Nat.le_of_ble_eq_true rfl)) dX1_tellFurther_66 ⟨Nat.le_of_ble_eq_true rfl, Nat.le_of_ble_eq_true rfl⟩) (fun μ25 H locs h hw => ?_)
          refine lv_aload_n hx hb dX1_tellFurther_69 rfl (lv_at hl 3 rfl) ?_
          refine gf_X1_23 hx hb ht hown hK hw rfl dX1_tellFurther_70 ?_
          refine W.eq (g2 := F0 m 73 ls [.ref (ad 27)]) rfl ?_
          refine lv_iload hx hb dX1_tellFurther_73 (lv_at hl 0 rfl) ?_
          refine lv_aload_n hx hb dX1_tellFurther_75 rfl (lv_at hl 3 rfl) ?_
          refine gf_X1_23 hx hb ht hown hK hw rfl dX1_tellFurther_76 ?_
          refine W.eq (g2 := F0 m 79 ls [.ref (ad 27), .int v8, .ref (ad 27)]) rfl ?_
          refine lv_iload hx hb dX1_tellFurther_79 (lv_at hl 0 rfl) ?_
          refine T_calli hw (va_runV (own := "Leastreader$Likeness") (As := [.int v8]) (rest := [.int v8, .ref (ad 27)]) ⟨hx, hb, hml, hown, ht⟩ (c_X6_at 27 rfl μ25 H.size v8 h) (cwV 1 ht (G_V q_471 q_399 q_400 q_51 q_401) rfl rfl rfl ⟨rfl, hd_8⟩ ⟨Nat.le_of_ble_eq_true rfl, Nat.le_of_ble_eq_true rfl⟩) ⟨TB.blind, (T_recv hK hw (kd_of rfl (by decide)) (ent_6 rfl) cl_6), TB.pre hK hN hw⟩ rfl rfl hl.1 rfl (lv_room (Nat.le_of_ble_eq_true rfl)) dX1_tellFurther_81 ⟨Nat.le_of_ble_eq_true rfl, Nat.le_of_ble_eq_true rfl⟩) (fun r26 μ27 H locs h hw => ?_)
          obtain ⟨e28, h⟩ := h
          rw [e28] at hw
          refine lv_iconst (v := (1 : Int32)) hx hb dX1_tellFurther_84 (by decide) ?_
          refine lv_iload_n hx hb dX1_tellFurther_85 rfl (lv_at hl 1 rfl) ?_
          refine lv_ishl hx hb dX1_tellFurther_86 ?_
          refine lv_ior hx hb dX1_tellFurther_87 ?_
          refine T_callv hw (va_runV (own := "Leastreader$Likeness") (As := [.int v8, .int (r26 ||| ((1 : Int32) <<< (v9 &&& 31)))]) (rest := []) ⟨hx, hb, hml, hown, ht⟩ (c_X6_put 27 rfl μ25 H.size v8 (r26 ||| ((1 : Int32) <<< (v9 &&& 31))) h) (cwV 2 ht (G_V q_466 q_395 q_396 q_51 q_397) rfl rfl rfl ⟨rfl, hd_7⟩ ⟨Nat.le_of_ble_eq_true rfl, Nat.le_of_ble_eq_true rfl⟩) ⟨TB.blind, (T_recv hK hw (kd_of rfl (by decide)) (ent_6 rfl) cl_6), TB.pre hK hN hw⟩ rfl rfl hl.1 rfl (lv_room (Nat.le_of_ble_eq_true rfl)) dX1_tellFurther_88 ⟨Nat.le_of_ble_eq_true rfl, Nat.le_of_ble_eq_true rfl⟩) (fun μ29 H locs h hw => ?_)
          refine lv_iconst (v := (1 : Int32)) hx hb dX1_tellFurther_91 (by decide) ?_
          refine lv_istore_n (lv' := [(2, .int (1 : Int32)), (4, .int v8), (3, .int v9), (0, .ref (ad 22)), (1, .ref (ad k1))]) hx hb dX1_tellFurther_92 rfl hl (by decide) rfl (fun ls hl => ?_)
          refine lv_iinc (v := (v8 + (1 : Int32))) (lv' := [(4, .int (v8 + (1 : Int32))), (2, .int (1 : Int32)), (3, .int v9), (0, .ref (ad 22)), (1, .ref (ad k1))]) hx hb dX1_tellFurther_93 hl (k := 1) rfl rfl (by decide) rfl (fun ls hl => ?_)
          refine lv_goto (tgt := 15) hx hb dX1_tellFurther_96 (by decide) ?_
          exact ih6 (v8 + (1 : Int32)) (1 : Int32) μ29 H locs ls hw (lv_sub hl [0, 2, 1, 3, 4] rfl) h
      refine L6 v2 _ ?_ n30 (0 : Int32) v3 μ4 H locs ls hw (lv_sub hl [0, 1, 2, 3, 4] rfl) h
      intro u31 μ32 H locs ls hw hl h
      refine lv_iinc (v := (v2 + (1 : Int32))) (lv' := [(3, .int (v2 + (1 : Int32))), (2, .int u31), (0, .ref (ad 22)), (1, .ref (ad k1))]) hx hb dX1_tellFurther_99 hl (k := 0) rfl rfl (by decide) rfl (fun ls hl => ?_)
      refine lv_goto (tgt := 4) hx hb dX1_tellFurther_102 (by decide) ?_
      exact ih0 (v2 + (1 : Int32)) u31 μ32 H locs ls hw (lv_sub hl [0, 1, 2, 3] rfl) h
  exact L0 n33 (0 : Int32) (0 : Int32) μ H locs ls hw (lv_sub hl [0, 1, 2, 3] rfl) h
def wpl_X1_firstNotUnlike_2 (μ : TMem) (v3 : Int32) (Q : Int32 → Prop) : Nat → Int32 → Prop
  | 0, _ => False
  | n + 1, v2 =>
    (v3 ≤ v2 → (Q v3)) ∧ (¬ v3 ≤ v2 → (wp_X6_at 27 μ v3 (fun (r5 : Int32) => wp_X9_isIn r5 v2 (fun (r8 : Int32) => (¬ r8 = 0 → (wpl_X1_firstNotUnlike_2 μ v3 Q n (v2 + (1 : Int32)))) ∧ (r8 = 0 → (Q v2))))))
def wp_X1_firstNotUnlike (μ : TMem) (a1 : Int32) (Q : Int32 → Prop) : Prop :=
  ∃ n0x, wpl_X1_firstNotUnlike_2 μ a1 Q n0x (0 : Int32)
set_option maxHeartbeats 4000000 in
set_option maxRecDepth 100000 in
theorem c_X1_firstNotUnlike {l : Launch} {D : va_G} {ad : Nat → Nat} {cI cM : ClassId}  (μ : TMem) (sz : Nat) (a1 : Int32) {Q : Int32 → Prop} (h : wp_X1_firstNotUnlike μ a1 Q) : TMi l yX1_firstNotUnlike (.code yX1_firstNotUnlike cX1_firstNotUnlike 3 (Option.some Jvm.ClassFile.FieldType.int)) 1 [.ref (ad 22), .int a1] D ad cI cM sz μ (fun r μ1 => μ1 = μ ∧ Q r) := by
  refine T_meti (by decide +kernel) (Nat.le_of_ble_eq_true rfl) ?_
  intro p e s m below meth c Z ls hx hb hml hown ht hN hK hw hret hl
  have hl : lv_has ls 3 [(0, .ref (ad 22)), (1, .int a1)] := hl
  generalize s.heap = H at hw ⊢
  generalize ([] : List Loc) = locs at hw ⊢
  change ∃ n0x, wpl_X1_firstNotUnlike_2 μ a1 Q n0x (0 : Int32) at h
  refine lv_iconst (v := (0 : Int32)) hx hb dX1_firstNotUnlike_0 (by decide) ?_
  refine lv_istore_n (lv' := [(2, .int (0 : Int32)), (0, .ref (ad 22)), (1, .int a1)]) hx hb dX1_firstNotUnlike_1 rfl hl (by decide) rfl (fun ls hl => ?_)
  obtain ⟨n10, h⟩ := h
  have L0 : ∀ (v3 : Int32), ∀ (n : Nat) (v2 : Int32) (H : Heap) (locs : List Loc) (ls : Array Slot), TW D ad cI cM s μ H locs → lv_has ls 3 [(2, .int v2), (0, .ref (ad 22)), (1, .int v3)] → wpl_X1_firstNotUnlike_2 μ v3 Q n v2 → W p l e (RM 1) s m #[.ref (ad 22), .int a1] below meth c H locs 0 0 Z (F0 m 2 ls []) := by
    intro v3
    intro n
    induction n with
    | zero => intro v2 H locs ls hw hl h; exact False.elim h
    | succ n ih0 =>
      intro v2 H locs ls hw hl h
      change (v3 ≤ v2 → (Q v3)) ∧ (¬ v3 ≤ v2 → (wp_X6_at 27 μ v3 (fun (r5 : Int32) => wp_X9_isIn r5 v2 (fun (r8 : Int32) => (¬ r8 = 0 → (wpl_X1_firstNotUnlike_2 μ v3 Q n (v2 + (1 : Int32)))) ∧ (r8 = 0 → (Q v2)))))) at h
      refine lv_iload_n hx hb dX1_firstNotUnlike_2 rfl (lv_at hl 0 rfl) ?_
      refine lv_iload_n hx hb dX1_firstNotUnlike_3 rfl (lv_at hl 2 rfl) ?_
      refine lv_icmp_ge (tgt := 30) hx hb dX1_firstNotUnlike_4 (by decide) (fun c4 => ?_) (fun c4 => ?_)
      · have h := h.1 c4
        refine lv_iload_n hx hb dX1_firstNotUnlike_30 rfl (lv_at hl 2 rfl) ?_
        exact hret H locs ls 31 _ _ hw ⟨rfl, h⟩ rfl dX1_firstNotUnlike_31
      have h := h.2 c4
      refine lv_aload_n hx hb dX1_firstNotUnlike_7 rfl (lv_at hl 1 rfl) ?_
      refine gf_X1_23 hx hb ht hown hK hw rfl dX1_firstNotUnlike_8 ?_
      refine W.eq (g2 := F0 m 11 ls [.ref (ad 27)]) rfl ?_
      refine lv_iload_n hx hb dX1_firstNotUnlike_11 rfl (lv_at hl 2 rfl) ?_
      refine T_calli hw (va_runV (own := "Leastreader$Likeness") (As := [.int v3]) (rest := []) ⟨hx, hb, hml, hown, ht⟩ (c_X6_at 27 rfl μ H.size v3 h) (cwV 1 ht (G_V q_471 q_399 q_400 q_51 q_401) rfl rfl rfl ⟨rfl, hd_8⟩ ⟨Nat.le_of_ble_eq_true rfl, Nat.le_of_ble_eq_true rfl⟩) ⟨TB.blind, (T_recv hK hw (kd_of rfl (by decide)) (ent_6 rfl) cl_6), TB.pre hK hN hw⟩ rfl rfl hl.1 rfl (lv_room (Nat.le_of_ble_eq_true rfl)) dX1_firstNotUnlike_12 ⟨Nat.le_of_ble_eq_true rfl, Nat.le_of_ble_eq_true rfl⟩) (fun r5 μ6 H locs h hw => ?_)
      obtain ⟨e7, h⟩ := h
      rw [e7] at hw
      refine lv_iload_n hx hb dX1_firstNotUnlike_15 rfl (lv_at hl 0 rfl) ?_
      refine P_calli (va_runSN (own := "Leastreader$Likeness") (As := [.int r5, .int v2]) (rest := []) ⟨hx, hb, hml, hown, ht⟩ (c_X9_isIn r5 v2 h) ⟨va_cnB 2 ht (G_ws q_411) rfl rfl rfl (nw_472 hN) (ht _ q_46) hd_5 ⟨Nat.le_of_ble_eq_true rfl, Nat.le_of_ble_eq_true rfl⟩, ht _ q_410, trivial⟩ ⟨PM_blind, PM_pre⟩ rfl rfl hl.1 rfl (lv_room (Nat.le_of_ble_eq_true rfl)) dX1_firstNotUnlike_16 ⟨Nat.le_of_ble_eq_true rfl, Nat.le_of_ble_eq_true rfl⟩) (fun r8 h => ?_)
      refine lv_if_ne (tgt := 24) hx hb dX1_firstNotUnlike_19 (by decide) (fun c9 => ?_) (fun c9 => ?_)
      · have h := h.1 c9
        refine lv_iinc (v := (v2 + (1 : Int32))) (lv' := [(2, .int (v2 + (1 : Int32))), (0, .ref (ad 22)), (1, .int v3)]) hx hb dX1_firstNotUnlike_24 hl (k := 0) rfl rfl (by decide) rfl (fun ls hl => ?_)
        refine lv_goto (tgt := 2) hx hb dX1_firstNotUnlike_27 (by decide) ?_
        exact ih0 (v2 + (1 : Int32)) H locs ls hw (lv_sub hl [0, 1, 2] rfl) h
      have h := h.2 c9
      refine lv_iload_n hx hb dX1_firstNotUnlike_22 rfl (lv_at hl 0 rfl) ?_
      exact hret H locs ls 23 _ _ hw ⟨rfl, h⟩ rfl dX1_firstNotUnlike_23
  exact L0 a1 n10 (0 : Int32) H locs ls hw (lv_sub hl [0, 1, 2] rfl) h
def wpl_X1_findByPairs_2 (k1 : Nat) (K29 : TMem → Prop) : Nat → Int32 → TMem → Prop
  | 0, _, _ => False
  | n + 1, v2, μ3 =>
    ((μ3 k1 1) ≤ v2 → (K29 μ3)) ∧ (¬ (μ3 k1 1) ≤ v2 → (wp_X1_ofOtherGoalness k1 μ3 v2 (fun (r5 : Int32) => wp_X6_put 27 μ3 v2 r5 (fun (μ8 : TMem) => wpl_X1_findByPairs_2 k1 K29 n (v2 + (1 : Int32)) μ8))))
def wpl_X1_findByPairs_33 (k1 : Nat) (K56 : TMem → Prop) : Nat → Int32 → Int32 → TMem → Prop
  | 0, _, _, _ => False
  | n + 1, v12, v13, μ14 =>
    ((1024 : Int32) ≤ v12 → (K56 μ14)) ∧ (¬ (1024 : Int32) ≤ v12 → ((v13 = 0 → (K56 μ14)) ∧ (¬ v13 = 0 → (wp_X1_tellFurther k1 μ14 (fun (r18 : Int32) (μ17 : TMem) => wpl_X1_findByPairs_33 k1 K56 n (v12 + (1 : Int32)) r18 μ17)))))
def wpl_X1_findByPairs_58 (k1 : Nat) (Q : TMem → Prop) : Nat → Int32 → TMem → Prop
  | 0, _, _ => False
  | n + 1, v22, μ23 =>
    ((μ23 k1 1) ≤ v22 → (Q μ23)) ∧ (¬ (μ23 k1 1) ≤ v22 → (wp_X1_firstNotUnlike μ23 v22 (fun (r25 : Int32) => wp_X6_put 23 μ23 v22 r25 (fun (μ28 : TMem) => wpl_X1_findByPairs_58 k1 Q n (v22 + (1 : Int32)) μ28))))
def wp_X1_findByPairs (k1 : Nat) (μ : TMem) (Q : TMem → Prop) : Prop :=
  ∃ n0x, wpl_X1_findByPairs_2 k1 (fun (μ10 : TMem) => ∃ n10x, wpl_X1_findByPairs_33 k1 (fun (μ20 : TMem) => ∃ n20x, wpl_X1_findByPairs_58 k1 Q n20x (0 : Int32) μ20) n10x (0 : Int32) (1 : Int32) μ10) n0x (0 : Int32) μ
set_option maxHeartbeats 4000000 in
set_option maxRecDepth 100000 in
theorem c_X1_findByPairs {l : Launch} {D : va_G} {ad : Nat → Nat} {cI cM : ClassId} (k1 : Nat) (hk1 : kd k1 = 5) (μ : TMem) (sz : Nat)  {Q : TMem → Prop} (h : wp_X1_findByPairs k1 μ Q) : TMv l yX1_findByPairs (.code yX1_findByPairs cX1_findByPairs 4 (Option.none : Option Jvm.ClassFile.FieldType)) 3 [.ref (ad 22), .ref (ad k1)] D ad cI cM sz μ Q := by
  refine T_metv (by decide +kernel) (Nat.le_of_ble_eq_true rfl) ?_
  intro p e s m below meth c Z ls hx hb hml hown ht hN hK hw hret hl
  have hl : lv_has ls 4 [(0, .ref (ad 22)), (1, .ref (ad k1))] := hl
  generalize s.heap = H at hw ⊢
  generalize ([] : List Loc) = locs at hw ⊢
  change ∃ n0x, wpl_X1_findByPairs_2 k1 (fun (μ10 : TMem) => ∃ n10x, wpl_X1_findByPairs_33 k1 (fun (μ20 : TMem) => ∃ n20x, wpl_X1_findByPairs_58 k1 Q n20x (0 : Int32) μ20) n10x (0 : Int32) (1 : Int32) μ10) n0x (0 : Int32) μ at h
  refine lv_iconst (v := (0 : Int32)) hx hb dX1_findByPairs_0 (by decide) ?_
  refine lv_istore_n (lv' := [(2, .int (0 : Int32)), (0, .ref (ad 22)), (1, .ref (ad k1))]) hx hb dX1_findByPairs_1 rfl hl (by decide) rfl (fun ls hl => ?_)
  obtain ⟨n9, h⟩ := h
  have L0 : ∀ (K29 : TMem → Prop), (∀ (μ3 : TMem) (H : Heap) (locs : List Loc) (ls : Array Slot), TW D ad cI cM s μ3 H locs → lv_has ls 4 [(0, .ref (ad 22)), (1, .ref (ad k1))] → K29 μ3 → W p l e (RM 3) s m #[.ref (ad 22), .ref (ad k1)] below meth c H locs 0 0 Z (F0 m 29 ls [])) → ∀ (n : Nat) (v2 : Int32) (μ3 : TMem) (H : Heap) (locs : List Loc) (ls : Array Slot), TW D ad cI cM s μ3 H locs → lv_has ls 4 [(2, .int v2), (0, .ref (ad 22)), (1, .ref (ad k1))] → wpl_X1_findByPairs_2 k1 K29 n v2 μ3 → W p l e (RM 3) s m #[.ref (ad 22), .ref (ad k1)] below meth c H locs 0 0 Z (F0 m 2 ls []) := by
    intro K29 hK29
    intro n
    induction n with
    | zero => intro v2 μ3 H locs ls hw hl h; exact False.elim h
    | succ n ih0 =>
      intro v2 μ3 H locs ls hw hl h
      change ((μ3 k1 1) ≤ v2 → (K29 μ3)) ∧ (¬ (μ3 k1 1) ≤ v2 → (wp_X1_ofOtherGoalness k1 μ3 v2 (fun (r5 : Int32) => wp_X6_put 27 μ3 v2 r5 (fun (μ8 : TMem) => wpl_X1_findByPairs_2 k1 K29 n (v2 + (1 : Int32)) μ8)))) at h
      refine lv_iload_n hx hb dX1_findByPairs_2 rfl (lv_at hl 0 rfl) ?_
      refine lv_aload_n hx hb dX1_findByPairs_3 rfl (lv_at hl 2 rfl) ?_
      refine gf_X1_30 hx hb ht hown hK hw hk1 dX1_findByPairs_4 ?_
      refine lv_icmp_ge (tgt := 29) hx hb dX1_findByPairs_7 (by decide) (fun c4 => ?_) (fun c4 => ?_)
      · have h := h.1 c4
        exact hK29 μ3 H locs ls hw (lv_sub hl [1, 2] rfl) h
      have h := h.2 c4
      refine lv_aload_n hx hb dX1_findByPairs_10 rfl (lv_at hl 1 rfl) ?_
      refine gf_X1_23 hx hb ht hown hK hw rfl dX1_findByPairs_11 ?_
      refine W.eq (g2 := F0 m 14 ls [.ref (ad 27)]) rfl ?_
      refine lv_iload_n hx hb dX1_findByPairs_14 rfl (lv_at hl 0 rfl) ?_
      refine lv_aload_n hx hb dX1_findByPairs_15 rfl (lv_at hl 2 rfl) ?_
      refine lv_iload_n hx hb dX1_findByPairs_16 rfl (lv_at hl 0 rfl) ?_
      refine T_calli hw (va_runS (own := "Leastreader$Likeness") (As := [.ref (ad k1), .int v2]) (rest := [.int v2, .ref (ad 27)]) ⟨hx, hb, hml, hown, ht⟩ (c_X1_ofOtherGoalness k1 hk1 μ3 H.size v2 h) (va_cwS 2 ht (G_S q_458 q_459 q_52 q_460) rfl rfl rfl hd_37 ⟨Nat.le_of_ble_eq_true rfl, Nat.le_of_ble_eq_true rfl⟩) ⟨TB.blind, TB.pre hK hN hw⟩ rfl rfl hl.1 rfl (lv_room (Nat.le_of_ble_eq_true rfl)) dX1_findByPairs_17 ⟨Nat.le_of_ble_eq_true rfl, Nat.le_of_ble_eq_true rfl⟩) (fun r5 μ6 H locs h hw => ?_)
      obtain ⟨e7, h⟩ := h
      rw [e7] at hw
      refine T_callv hw (va_runV (own := "Leastreader$Likeness") (As := [.int v2, .int r5]) (rest := []) ⟨hx, hb, hml, hown, ht⟩ (c_X6_put 27 rfl μ3 H.size v2 r5 h) (cwV 2 ht (G_V q_466 q_395 q_396 q_51 q_397) rfl rfl rfl ⟨rfl, hd_7⟩ ⟨Nat.le_of_ble_eq_true rfl, Nat.le_of_ble_eq_true rfl⟩) ⟨TB.blind, (T_recv hK hw (kd_of rfl (by decide)) (ent_6 rfl) cl_6), TB.pre hK hN hw⟩ rfl rfl hl.1 rfl (lv_room (Nat.le_of_ble_eq_true rfl)) dX1_findByPairs_20 ⟨Nat.le_of_ble_eq_true rfl, Nat.le_of_ble_eq_true rfl⟩) (fun μ8 H locs h hw => ?_)
      refine lv_iinc (v := (v2 + (1 : Int32))) (lv' := [(2, .int (v2 + (1 : Int32))), (0, .ref (ad 22)), (1, .ref (ad k1))]) hx hb dX1_findByPairs_23 hl (k := 0) rfl rfl (by decide) rfl (fun ls hl => ?_)
      refine lv_goto (tgt := 2) hx hb dX1_findByPairs_26 (by decide) ?_
      exact ih0 (v2 + (1 : Int32)) μ8 H locs ls hw (lv_sub hl [0, 1, 2] rfl) h
  refine L0 _ ?_ n9 (0 : Int32) μ H locs ls hw (lv_sub hl [0, 1, 2] rfl) h
  intro μ10 H locs ls hw hl h
  refine lv_iconst (v := (1 : Int32)) hx hb dX1_findByPairs_29 (by decide) ?_
  refine lv_istore_n (lv' := [(2, .int (1 : Int32)), (0, .ref (ad 22)), (1, .ref (ad k1))]) hx hb dX1_findByPairs_30 rfl hl (by decide) rfl (fun ls hl => ?_)
  refine lv_iconst (v := (0 : Int32)) hx hb dX1_findByPairs_31 (by decide) ?_
  refine lv_istore_n (lv' := [(3, .int (0 : Int32)), (2, .int (1 : Int32)), (0, .ref (ad 22)), (1, .ref (ad k1))]) hx hb dX1_findByPairs_32 rfl hl (by decide) rfl (fun ls hl => ?_)
  obtain ⟨n19, h⟩ := h
  have L10 : ∀ (K56 : TMem → Prop), (∀ (μ14 : TMem) (H : Heap) (locs : List Loc) (ls : Array Slot), TW D ad cI cM s μ14 H locs → lv_has ls 4 [(0, .ref (ad 22)), (1, .ref (ad k1))] → K56 μ14 → W p l e (RM 3) s m #[.ref (ad 22), .ref (ad k1)] below meth c H locs 0 0 Z (F0 m 56 ls [])) → ∀ (n : Nat) (v12 : Int32) (v13 : Int32) (μ14 : TMem) (H : Heap) (locs : List Loc) (ls : Array Slot), TW D ad cI cM s μ14 H locs → lv_has ls 4 [(3, .int v12), (2, .int v13), (0, .ref (ad 22)), (1, .ref (ad k1))] → wpl_X1_findByPairs_33 k1 K56 n v12 v13 μ14 → W p l e (RM 3) s m #[.ref (ad 22), .ref (ad k1)] below meth c H locs 0 0 Z (F0 m 33 ls []) := by
    intro K56 hK56
    intro n
    induction n with
    | zero => intro v12 v13 μ14 H locs ls hw hl h; exact False.elim h
    | succ n ih10 =>
      intro v12 v13 μ14 H locs ls hw hl h
      change ((1024 : Int32) ≤ v12 → (K56 μ14)) ∧ (¬ (1024 : Int32) ≤ v12 → ((v13 = 0 → (K56 μ14)) ∧ (¬ v13 = 0 → (wp_X1_tellFurther k1 μ14 (fun (r18 : Int32) (μ17 : TMem) => wpl_X1_findByPairs_33 k1 K56 n (v12 + (1 : Int32)) r18 μ17))))) at h
      refine lv_iload_n hx hb dX1_findByPairs_33 rfl (lv_at hl 0 rfl) ?_
      refine lv_sipush (v := (1024 : Int32)) hx hb dX1_findByPairs_34 (by decide) ?_
      refine lv_icmp_ge (tgt := 56) hx hb dX1_findByPairs_37 (by decide) (fun c15 => ?_) (fun c15 => ?_)
      · have h := h.1 c15
        exact hK56 μ14 H locs ls hw (lv_sub hl [2, 3] rfl) h
      have h := h.2 c15
      refine lv_iload_n hx hb dX1_findByPairs_40 rfl (lv_at hl 1 rfl) ?_
      refine lv_if_eq (tgt := 56) hx hb dX1_findByPairs_41 (by decide) (fun c16 => ?_) (fun c16 => ?_)
      · have h := h.1 c16
        exact hK56 μ14 H locs ls hw (lv_sub hl [2, 3] rfl) h
      have h := h.2 c16
      refine lv_aload_n hx hb dX1_findByPairs_44 rfl (lv_at hl 2 rfl) ?_
      refine lv_aload_n hx hb dX1_findByPairs_45 rfl (lv_at hl 3 rfl) ?_
      refine T_calli hw (va_runV (own := "Leastreader$Likeness") (As := [.ref (ad k1)]) (rest := []) ⟨hx, hb, hml, hown, ht⟩ (c_X1_tellFurther k1 hk1 μ14 H.size h) (cwV 1 ht (G_V q_467 q_469 q_5 q_52 q_470) rfl rfl rfl ⟨rfl, hd_38⟩ ⟨Nat.le_of_ble_eq_true rfl, Nat.le_of_ble_eq_true rfl⟩) ⟨TB.blind, (T_recv hK hw (kd_of rfl (by decide)) (ent_1 rfl) cl_1), TB.pre hK hN hw⟩ rfl rfl hl.1 rfl (lv_room (Nat.le_of_ble_eq_true rfl)) dX1_findByPairs_46 ⟨Nat.le_of_ble_eq_true rfl, Nat.le_of_ble_eq_true rfl⟩) (fun r18 μ17 H locs h hw => ?_)
      refine lv_istore_n (lv' := [(2, .int r18), (3, .int v12), (0, .ref (ad 22)), (1, .ref (ad k1))]) hx hb dX1_findByPairs_49 rfl hl (by decide) rfl (fun ls hl => ?_)
      refine lv_iinc (v := (v12 + (1 : Int32))) (lv' := [(3, .int (v12 + (1 : Int32))), (2, .int r18), (0, .ref (ad 22)), (1, .ref (ad k1))]) hx hb dX1_findByPairs_50 hl (k := 1) rfl rfl (by decide) rfl (fun ls hl => ?_)
      refine lv_goto (tgt := 33) hx hb dX1_findByPairs_53 (by decide) ?_
      exact ih10 (v12 + (1 : Int32)) r18 μ17 H locs ls hw (lv_sub hl [0, 1, 2, 3] rfl) h
  refine L10 _ ?_ n19 (0 : Int32) (1 : Int32) μ10 H locs ls hw (lv_sub hl [0, 1, 2, 3] rfl) h
  intro μ20 H locs ls hw hl h
  refine lv_iconst (v := (0 : Int32)) hx hb dX1_findByPairs_56 (by decide) ?_
  refine lv_istore_n (lv' := [(3, .int (0 : Int32)), (0, .ref (ad 22)), (1, .ref (ad k1))]) hx hb dX1_findByPairs_57 rfl hl (by decide) rfl (fun ls hl => ?_)
  obtain ⟨n29, h⟩ := h
  have L20 : ∀ (n : Nat) (v22 : Int32) (μ23 : TMem) (H : Heap) (locs : List Loc) (ls : Array Slot), TW D ad cI cM s μ23 H locs → lv_has ls 4 [(3, .int v22), (0, .ref (ad 22)), (1, .ref (ad k1))] → wpl_X1_findByPairs_58 k1 Q n v22 μ23 → W p l e (RM 3) s m #[.ref (ad 22), .ref (ad k1)] below meth c H locs 0 0 Z (F0 m 58 ls []) := by
    intro n
    induction n with
    | zero => intro v22 μ23 H locs ls hw hl h; exact False.elim h
    | succ n ih20 =>
      intro v22 μ23 H locs ls hw hl h
      change ((μ23 k1 1) ≤ v22 → (Q μ23)) ∧ (¬ (μ23 k1 1) ≤ v22 → (wp_X1_firstNotUnlike μ23 v22 (fun (r25 : Int32) => wp_X6_put 23 μ23 v22 r25 (fun (μ28 : TMem) => wpl_X1_findByPairs_58 k1 Q n (v22 + (1 : Int32)) μ28)))) at h
      refine lv_iload_n hx hb dX1_findByPairs_58 rfl (lv_at hl 0 rfl) ?_
      refine lv_aload_n hx hb dX1_findByPairs_59 rfl (lv_at hl 2 rfl) ?_
      refine gf_X1_30 hx hb ht hown hK hw hk1 dX1_findByPairs_60 ?_
      refine lv_icmp_ge (tgt := 85) hx hb dX1_findByPairs_63 (by decide) (fun c24 => ?_) (fun c24 => ?_)
      · have h := h.1 c24
        exact hret H locs ls 85 _ hw h dX1_findByPairs_85
      have h := h.2 c24
      refine lv_aload_n hx hb dX1_findByPairs_66 rfl (lv_at hl 1 rfl) ?_
      refine gf_X1_14 hx hb ht hown hK hw rfl dX1_findByPairs_67 ?_
      refine W.eq (g2 := F0 m 70 ls [.ref (ad 23)]) rfl ?_
      refine lv_iload_n hx hb dX1_findByPairs_70 rfl (lv_at hl 0 rfl) ?_
      refine lv_aload_n hx hb dX1_findByPairs_71 rfl (lv_at hl 1 rfl) ?_
      refine lv_iload_n hx hb dX1_findByPairs_72 rfl (lv_at hl 0 rfl) ?_
      refine T_calli hw (va_runV (own := "Leastreader$Likeness") (As := [.int v22]) (rest := [.int v22, .ref (ad 23)]) ⟨hx, hb, hml, hown, ht⟩ (c_X1_firstNotUnlike μ23 H.size v22 h) (cwV 1 ht (G_V q_478 q_480 q_7 q_52 q_481) rfl rfl rfl ⟨rfl, hd_39⟩ ⟨Nat.le_of_ble_eq_true rfl, Nat.le_of_ble_eq_true rfl⟩) ⟨TB.blind, (T_recv hK hw (kd_of rfl (by decide)) (ent_1 rfl) cl_1), TB.pre hK hN hw⟩ rfl rfl hl.1 rfl (lv_room (Nat.le_of_ble_eq_true rfl)) dX1_findByPairs_73 ⟨Nat.le_of_ble_eq_true rfl, Nat.le_of_ble_eq_true rfl⟩) (fun r25 μ26 H locs h hw => ?_)
      obtain ⟨e27, h⟩ := h
      rw [e27] at hw
      refine T_callv hw (va_runV (own := "Leastreader$Likeness") (As := [.int v22, .int r25]) (rest := []) ⟨hx, hb, hml, hown, ht⟩ (c_X6_put 23 rfl μ23 H.size v22 r25 h) (cwV 2 ht (G_V q_466 q_395 q_396 q_51 q_397) rfl rfl rfl ⟨rfl, hd_7⟩ ⟨Nat.le_of_ble_eq_true rfl, Nat.le_of_ble_eq_true rfl⟩) ⟨TB.blind, (T_recv hK hw (kd_of rfl (by decide)) (ent_6 rfl) cl_6), TB.pre hK hN hw⟩ rfl rfl hl.1 rfl (lv_room (Nat.le_of_ble_eq_true rfl)) dX1_findByPairs_76 ⟨Nat.le_of_ble_eq_true rfl, Nat.le_of_ble_eq_true rfl⟩) (fun μ28 H locs h hw => ?_)
      refine lv_iinc (v := (v22 + (1 : Int32))) (lv' := [(3, .int (v22 + (1 : Int32))), (0, .ref (ad 22)), (1, .ref (ad k1))]) hx hb dX1_findByPairs_79 hl (k := 0) rfl rfl (by decide) rfl (fun ls hl => ?_)
      refine lv_goto (tgt := 58) hx hb dX1_findByPairs_82 (by decide) ?_
      exact ih20 (v22 + (1 : Int32)) μ28 H locs ls hw (lv_sub hl [0, 1, 2] rfl) h
  exact L20 n29 (0 : Int32) μ20 H locs ls hw (lv_sub hl [0, 1, 2] rfl) h
end
/-! part 27.m8 -/
section
def wpl_X2_addState_2 (k0 : Nat) (Q : TMem → Prop) : Nat → Int32 → TMem → Prop
  | 0, _, _ => False
  | n + 1, v2, μ3 =>
    ((3 : Int32) ≤ v2 → (Q (tms μ3 k0 1 ((μ3 k0 1) + (1 : Int32))))) ∧ (¬ (3 : Int32) ≤ v2 → (wp_X7_put k0 μ3 (μ3 k0 1) v2 (0 : Int32) (fun (μ5 : TMem) => wpl_X2_addState_2 k0 Q n (v2 + (1 : Int32)) μ5)))
def wp_X2_addState (k0 : Nat) (μ : TMem) (Q : TMem → Prop) : Prop :=
  ∃ n0x, wpl_X2_addState_2 k0 Q n0x (0 : Int32) μ
set_option maxHeartbeats 4000000 in
set_option maxRecDepth 100000 in
theorem c_X2_addState {l : Launch} {D : va_G} {ad : Nat → Nat} {cI cM : ClassId} (k0 : Nat) (hk0 : kd k0 = 2) (μ : TMem) (sz : Nat)  {Q : TMem → Prop} (h : wp_X2_addState k0 μ Q) : TMv l yX2_addState (.code yX2_addState cX2_addState 2 (Option.none : Option Jvm.ClassFile.FieldType)) 1 [.ref (ad k0)] D ad cI cM sz μ Q := by
  refine T_metv (by decide +kernel) (Nat.le_of_ble_eq_true rfl) ?_
  intro p e s m below meth c Z ls hx hb hml hown ht hN hK hw hret hl
  have hl : lv_has ls 2 [(0, .ref (ad k0))] := hl
  generalize s.heap = H at hw ⊢
  generalize ([] : List Loc) = locs at hw ⊢
  change ∃ n0x, wpl_X2_addState_2 k0 Q n0x (0 : Int32) μ at h
  refine lv_iconst (v := (0 : Int32)) hx hb dX2_addState_0 (by decide) ?_
  refine lv_istore_n (lv' := [(1, .int (0 : Int32)), (0, .ref (ad k0))]) hx hb dX2_addState_1 rfl hl (by decide) rfl (fun ls hl => ?_)
  obtain ⟨n6, h⟩ := h
  have L0 : ∀ (n : Nat) (v2 : Int32) (μ3 : TMem) (H : Heap) (locs : List Loc) (ls : Array Slot), TW D ad cI cM s μ3 H locs → lv_has ls 2 [(1, .int v2), (0, .ref (ad k0))] → wpl_X2_addState_2 k0 Q n v2 μ3 → W p l e (RM 1) s m #[.ref (ad k0)] below meth c H locs 0 0 Z (F0 m 2 ls []) := by
    intro n
    induction n with
    | zero => intro v2 μ3 H locs ls hw hl h; exact False.elim h
    | succ n ih0 =>
      intro v2 μ3 H locs ls hw hl h
      change ((3 : Int32) ≤ v2 → (Q (tms μ3 k0 1 ((μ3 k0 1) + (1 : Int32))))) ∧ (¬ (3 : Int32) ≤ v2 → (wp_X7_put k0 μ3 (μ3 k0 1) v2 (0 : Int32) (fun (μ5 : TMem) => wpl_X2_addState_2 k0 Q n (v2 + (1 : Int32)) μ5))) at h
      refine lv_iload_n hx hb dX2_addState_2 rfl (lv_at hl 0 rfl) ?_
      refine lv_iconst (v := (3 : Int32)) hx hb dX2_addState_3 (by decide) ?_
      refine lv_icmp_ge (tgt := 23) hx hb dX2_addState_4 (by decide) (fun c4 => ?_) (fun c4 => ?_)
      · have h := h.1 c4
        refine lv_aload_n hx hb dX2_addState_23 rfl (lv_at hl 1 rfl) ?_
        refine lv_dup hx hb dX2_addState_24 rfl ?_
        refine gf_X2_15 hx hb ht hown hK hw hk0 dX2_addState_25 ?_
        refine lv_iconst (v := (1 : Int32)) hx hb dX2_addState_28 (by decide) ?_
        refine lv_iadd hx hb dX2_addState_29 ?_
        refine pgf_X2_15 hx hb ht hown hK hw hk0 dX2_addState_30 (fun H locs hw => ?_)
        exact hret H locs ls 33 _ hw h dX2_addState_33
      have h := h.2 c4
      refine lv_aload_n hx hb dX2_addState_7 rfl (lv_at hl 1 rfl) ?_
      refine lv_aload_n hx hb dX2_addState_8 rfl (lv_at hl 1 rfl) ?_
      refine gf_X2_15 hx hb ht hown hK hw hk0 dX2_addState_9 ?_
      refine lv_iload_n hx hb dX2_addState_12 rfl (lv_at hl 0 rfl) ?_
      refine lv_iconst (v := (0 : Int32)) hx hb dX2_addState_13 (by decide) ?_
      refine T_callv hw (va_runU (own := "Leastreader$Machine") (As := [.int (μ3 k0 1), .int v2, .int (0 : Int32)]) (rest := []) ⟨hx, hb, hml, hown, ht⟩ (c_X7_put_2 k0 hk0 μ3 H.size (μ3 k0 1) v2 (0 : Int32) h) (va_cwU (owner := "Leastreader$Table") 3 ht (G_U q_444 q_445 q_446 q_430 q_47 q_431) rfl rfl rfl rfl hd_1 ⟨Nat.le_of_ble_eq_true rfl, Nat.le_of_ble_eq_true rfl⟩) ⟨TB.blind, (T_recv hK hw (kd_of hk0 (by decide)) (ent_2 hk0) cl_2), TB.pre hK hN hw⟩ rfl rfl hl.1 rfl (lv_room (Nat.le_of_ble_eq_true rfl)) dX2_addState_14 ⟨Nat.le_of_ble_eq_true rfl, Nat.le_of_ble_eq_true rfl⟩) (fun μ5 H locs h hw => ?_)
      refine lv_iinc (v := (v2 + (1 : Int32))) (lv' := [(1, .int (v2 + (1 : Int32))), (0, .ref (ad k0))]) hx hb dX2_addState_17 hl (k := 0) rfl rfl (by decide) rfl (fun ls hl => ?_)
      refine lv_goto (tgt := 2) hx hb dX2_addState_20 (by decide) ?_
      exact ih0 (v2 + (1 : Int32)) μ5 H locs ls hw (lv_sub hl [0, 1] rfl) h
  exact L0 n6 (0 : Int32) μ H locs ls hw (lv_sub hl [0, 1] rfl) h
def wpl_X2_clear_12 (k0 : Nat) (v3 : Int32) (Q : TMem → Prop) : Nat → Int32 → TMem → Prop
  | 0, _, _ => False
  | n + 1, v2, μ4 =>
    (v3 ≤ v2 → (Q (tms μ4 k0 3 (1 : Int32)))) ∧ (¬ v3 ≤ v2 → (wp_X2_addState k0 μ4 (fun (μ6 : TMem) => wpl_X2_clear_12 k0 v3 Q n (v2 + (1 : Int32)) μ6)))
def wp_X2_clear (k0 : Nat) (μ : TMem) (a1 : Int32) (Q : TMem → Prop) : Prop :=
  ∃ n0x, wpl_X2_clear_12 k0 a1 Q n0x (0 : Int32) (tms (tms μ k0 1 (0 : Int32)) k0 2 (0 : Int32))
set_option maxHeartbeats 4000000 in
set_option maxRecDepth 100000 in
theorem c_X2_clear {l : Launch} {D : va_G} {ad : Nat → Nat} {cI cM : ClassId} (k0 : Nat) (hk0 : kd k0 = 2) (μ : TMem) (sz : Nat) (a1 : Int32) {Q : TMem → Prop} (h : wp_X2_clear k0 μ a1 Q) : TMv l yX2_clear (.code yX2_clear cX2_clear 3 (Option.none : Option Jvm.ClassFile.FieldType)) 2 [.ref (ad k0), .int a1] D ad cI cM sz μ Q := by
  refine T_metv (by decide +kernel) (Nat.le_of_ble_eq_true rfl) ?_
  intro p e s m below meth c Z ls hx hb hml hown ht hN hK hw hret hl
  have hl : lv_has ls 3 [(0, .ref (ad k0)), (1, .int a1)] := hl
  generalize s.heap = H at hw ⊢
  generalize ([] : List Loc) = locs at hw ⊢
  change ∃ n0x, wpl_X2_clear_12 k0 a1 Q n0x (0 : Int32) (tms (tms μ k0 1 (0 : Int32)) k0 2 (0 : Int32)) at h
  refine lv_aload_n hx hb dX2_clear_0 rfl (lv_at hl 0 rfl) ?_
  refine lv_iconst (v := (0 : Int32)) hx hb dX2_clear_1 (by decide) ?_
  refine pgf_X2_15 hx hb ht hown hK hw hk0 dX2_clear_2 (fun H locs hw => ?_)
  refine lv_aload_n hx hb dX2_clear_5 rfl (lv_at hl 0 rfl) ?_
  refine lv_iconst (v := (0 : Int32)) hx hb dX2_clear_6 (by decide) ?_
  refine pgf_X2_18 hx hb ht hown hK hw hk0 dX2_clear_7 (fun H locs hw => ?_)
  refine lv_iconst (v := (0 : Int32)) hx hb dX2_clear_10 (by decide) ?_
  refine lv_istore_n (lv' := [(2, .int (0 : Int32)), (0, .ref (ad k0)), (1, .int a1)]) hx hb dX2_clear_11 rfl hl (by decide) rfl (fun ls hl => ?_)
  obtain ⟨n7, h⟩ := h
  have L0 : ∀ (v3 : Int32), ∀ (n : Nat) (v2 : Int32) (μ4 : TMem) (H : Heap) (locs : List Loc) (ls : Array Slot), TW D ad cI cM s μ4 H locs → lv_has ls 3 [(2, .int v2), (0, .ref (ad k0)), (1, .int v3)] → wpl_X2_clear_12 k0 v3 Q n v2 μ4 → W p l e (RM 2) s m #[.ref (ad k0), .int a1] below meth c H locs 0 0 Z (F0 m 12 ls []) := by
    intro v3
    intro n
    induction n with
    | zero => intro v2 μ4 H locs ls hw hl h; exact False.elim h
    | succ n ih0 =>
      intro v2 μ4 H locs ls hw hl h
      change (v3 ≤ v2 → (Q (tms μ4 k0 3 (1 : Int32)))) ∧ (¬ v3 ≤ v2 → (wp_X2_addState k0 μ4 (fun (μ6 : TMem) => wpl_X2_clear_12 k0 v3 Q n (v2 + (1 : Int32)) μ6))) at h
      refine lv_iload_n hx hb dX2_clear_12 rfl (lv_at hl 0 rfl) ?_
      refine lv_iload_n hx hb dX2_clear_13 rfl (lv_at hl 2 rfl) ?_
      refine lv_icmp_ge (tgt := 27) hx hb dX2_clear_14 (by decide) (fun c5 => ?_) (fun c5 => ?_)
      · have h := h.1 c5
        refine lv_aload_n hx hb dX2_clear_27 rfl (lv_at hl 1 rfl) ?_
        refine lv_iconst (v := (1 : Int32)) hx hb dX2_clear_28 (by decide) ?_
        refine pgf_X2_9 hx hb ht hown hK hw hk0 dX2_clear_29 (fun H locs hw => ?_)
        exact hret H locs ls 32 _ hw h dX2_clear_32
      have h := h.2 c5
      refine lv_aload_n hx hb dX2_clear_17 rfl (lv_at hl 1 rfl) ?_
      refine T_callv hw (va_runV (own := "Leastreader$Machine") (As := []) (rest := []) ⟨hx, hb, hml, hown, ht⟩ (c_X2_addState k0 hk0 μ4 H.size h) (cwV 0 ht (G_V q_620 q_621 q_622 q_48 q_623) rfl rfl rfl ⟨rfl, hd_40⟩ ⟨Nat.le_of_ble_eq_true rfl, Nat.le_of_ble_eq_true rfl⟩) ⟨TB.blind, (T_recv hK hw (kd_of hk0 (by decide)) (ent_2 hk0) cl_2), TB.pre hK hN hw⟩ rfl rfl hl.1 rfl (lv_room (Nat.le_of_ble_eq_true rfl)) dX2_clear_18 ⟨Nat.le_of_ble_eq_true rfl, Nat.le_of_ble_eq_true rfl⟩) (fun μ6 H locs h hw => ?_)
      refine lv_iinc (v := (v2 + (1 : Int32))) (lv' := [(2, .int (v2 + (1 : Int32))), (0, .ref (ad k0)), (1, .int v3)]) hx hb dX2_clear_21 hl (k := 0) rfl rfl (by decide) rfl (fun ls hl => ?_)
      refine lv_goto (tgt := 12) hx hb dX2_clear_24 (by decide) ?_
      exact ih0 (v2 + (1 : Int32)) μ6 H locs ls hw (lv_sub hl [0, 1, 2] rfl) h
  exact L0 a1 n7 (0 : Int32) (tms (tms μ k0 1 (0 : Int32)) k0 2 (0 : Int32)) H locs ls hw (lv_sub hl [0, 1, 2] rfl) h
def wp_X2_allStates (k0 : Nat) (μ : TMem) (Q : Int32 → Prop) : Prop :=
  Q (((1 : Int32) <<< ((μ k0 1) &&& 31)) - (1 : Int32))
set_option maxHeartbeats 4000000 in
set_option maxRecDepth 100000 in
theorem c_X2_allStates {l : Launch} {D : va_G} {ad : Nat → Nat} {cI cM : ClassId} (k0 : Nat) (hk0 : kd k0 = 2) (μ : TMem) (sz : Nat)  {Q : Int32 → Prop} (h : wp_X2_allStates k0 μ Q) : TMi l yX2_allStates (.code yX2_allStates cX2_allStates 1 (Option.some Jvm.ClassFile.FieldType.int)) 0 [.ref (ad k0)] D ad cI cM sz μ (fun r μ1 => μ1 = μ ∧ Q r) := by
  refine T_meti (by decide +kernel) (Nat.le_of_ble_eq_true rfl) ?_
  intro p e s m below meth c Z ls hx hb hml hown ht hN hK hw hret hl
  have hl : lv_has ls 1 [(0, .ref (ad k0))] := hl
  generalize s.heap = H at hw ⊢
  generalize ([] : List Loc) = locs at hw ⊢
  change Q (((1 : Int32) <<< ((μ k0 1) &&& 31)) - (1 : Int32)) at h
  refine lv_iconst (v := (1 : Int32)) hx hb dX2_allStates_0 (by decide) ?_
  refine lv_aload_n hx hb dX2_allStates_1 rfl (lv_at hl 0 rfl) ?_
  refine gf_X2_15 hx hb ht hown hK hw hk0 dX2_allStates_2 ?_
  refine lv_ishl hx hb dX2_allStates_5 ?_
  refine lv_iconst (v := (1 : Int32)) hx hb dX2_allStates_6 (by decide) ?_
  refine lv_isub hx hb dX2_allStates_7 ?_
  exact hret H locs ls 8 _ _ hw ⟨rfl, h⟩ rfl dX2_allStates_8
def wp_X2_sowOne (k0 : Nat) (μ : TMem) (Q : Int32 → TMem → Prop) : Prop :=
  wp_X0_draw μ (fun (r2 : Int32) (μ1 : TMem) => ((μ1 k0 1) ≤ 0 → (Q (0 : Int32) μ1)) ∧ (¬ (μ1 k0 1) ≤ 0 → (¬ (μ1 k0 1) = 0 ∧ (Q ((1 : Int32) <<< ((r2 - r2 / (μ1 k0 1) * (μ1 k0 1)) &&& 31)) μ1))))
set_option maxHeartbeats 4000000 in
set_option maxRecDepth 100000 in
theorem c_X2_sowOne {l : Launch} {D : va_G} {ad : Nat → Nat} {cI cM : ClassId} (k0 : Nat) (hk0 : kd k0 = 2) (μ : TMem) (sz : Nat)  {Q : Int32 → TMem → Prop} (h : wp_X2_sowOne k0 μ Q) : TMi l yX2_sowOne (.code yX2_sowOne cX2_sowOne 3 (Option.some Jvm.ClassFile.FieldType.int)) 1 [.ref (ad k0), .ref (ad 14)] D ad cI cM sz μ Q := by
  refine T_meti (by decide +kernel) (Nat.le_of_ble_eq_true rfl) ?_
  intro p e s m below meth c Z ls hx hb hml hown ht hN hK hw hret hl
  have hl : lv_has ls 3 [(0, .ref (ad k0)), (1, .ref (ad 14))] := hl
  generalize s.heap = H at hw ⊢
  generalize ([] : List Loc) = locs at hw ⊢
  change wp_X0_draw μ (fun (r2 : Int32) (μ1 : TMem) => ((μ1 k0 1) ≤ 0 → (Q (0 : Int32) μ1)) ∧ (¬ (μ1 k0 1) ≤ 0 → (¬ (μ1 k0 1) = 0 ∧ (Q ((1 : Int32) <<< ((r2 - r2 / (μ1 k0 1) * (μ1 k0 1)) &&& 31)) μ1)))) at h
  refine lv_aload_n hx hb dX2_sowOne_0 rfl (lv_at hl 1 rfl) ?_
  refine T_calli hw (va_runV (own := "Leastreader$Machine") (As := []) (rest := []) ⟨hx, hb, hml, hown, ht⟩ (c_X0_draw μ H.size h) (cwV 0 ht (G_V q_679 q_680 q_681 q_49 q_682) rfl rfl rfl ⟨rfl, hd_41⟩ ⟨Nat.le_of_ble_eq_true rfl, Nat.le_of_ble_eq_true rfl⟩) ⟨TB.blind, (T_recv hK hw (kd_of rfl (by decide)) (ent_0 rfl) cl_0), TB.pre hK hN hw⟩ rfl rfl hl.1 rfl (lv_room (Nat.le_of_ble_eq_true rfl)) dX2_sowOne_1 ⟨Nat.le_of_ble_eq_true rfl, Nat.le_of_ble_eq_true rfl⟩) (fun r2 μ1 H locs h hw => ?_)
  refine lv_istore_n (lv' := [(2, .int r2), (0, .ref (ad k0)), (1, .ref (ad 14))]) hx hb dX2_sowOne_4 rfl hl (by decide) rfl (fun ls hl => ?_)
  refine lv_aload_n hx hb dX2_sowOne_5 rfl (lv_at hl 1 rfl) ?_
  refine gf_X2_15 hx hb ht hown hK hw hk0 dX2_sowOne_6 ?_
  refine lv_if_le (tgt := 23) hx hb dX2_sowOne_9 (by decide) (fun c3 => ?_) (fun c3 => ?_)
  · have h := h.1 c3
    refine lv_iconst (v := (0 : Int32)) hx hb dX2_sowOne_23 (by decide) ?_
    exact hret H locs ls 24 _ _ hw h rfl dX2_sowOne_24
  have h := h.2 c3
  refine lv_iconst (v := (1 : Int32)) hx hb dX2_sowOne_12 (by decide) ?_
  refine lv_iload_n hx hb dX2_sowOne_13 rfl (lv_at hl 0 rfl) ?_
  refine lv_aload_n hx hb dX2_sowOne_14 rfl (lv_at hl 1 rfl) ?_
  refine gf_X2_15 hx hb ht hown hK hw hk0 dX2_sowOne_15 ?_
  obtain ⟨z4, h⟩ := h
  refine lv_irem hx hb dX2_sowOne_18 z4 ?_
  refine lv_ishl hx hb dX2_sowOne_19 ?_
  refine lv_goto (tgt := 24) hx hb dX2_sowOne_20 (by decide) ?_
  exact hret H locs ls 24 _ _ hw h rfl dX2_sowOne_24
def wpl_X2_sowSome_5 (k0 : Nat) (v4 : Int32) (Q : Int32 → TMem → Prop) : Nat → Int32 → Int32 → TMem → Prop
  | 0, _, _, _ => False
  | n + 1, v2, v3, μ5 =>
    ((μ5 k0 1) ≤ v2 → (Q v3 μ5)) ∧ (¬ (μ5 k0 1) ≤ v2 → (wp_X0_draw μ5 (fun (r8 : Int32) (μ7 : TMem) => (v4 < 0 → (wpl_X2_sowSome_5 k0 v4 Q n (v2 + (1 : Int32)) v3 μ7)) ∧ (¬ v4 < 0 → (¬ (v4 + (1 : Int32)) = 0 ∧ ((¬ (r8 - r8 / (v4 + (1 : Int32)) * (v4 + (1 : Int32))) = 0 → (wpl_X2_sowSome_5 k0 v4 Q n (v2 + (1 : Int32)) v3 μ7)) ∧ ((r8 - r8 / (v4 + (1 : Int32)) * (v4 + (1 : Int32))) = 0 → (wpl_X2_sowSome_5 k0 v4 Q n (v2 + (1 : Int32)) (v3 ||| ((1 : Int32) <<< (v2 &&& 31))) μ7))))))))
def wp_X2_sowSome (k0 : Nat) (μ : TMem) (a2 : Int32) (Q : Int32 → TMem → Prop) : Prop :=
  ∃ n0x, wpl_X2_sowSome_5 k0 a2 Q n0x (0 : Int32) (0 : Int32) μ
set_option maxHeartbeats 4000000 in
set_option maxRecDepth 100000 in
theorem c_X2_sowSome {l : Launch} {D : va_G} {ad : Nat → Nat} {cI cM : ClassId} (k0 : Nat) (hk0 : kd k0 = 2) (μ : TMem) (sz : Nat) (a2 : Int32) {Q : Int32 → TMem → Prop} (h : wp_X2_sowSome k0 μ a2 Q) : TMi l yX2_sowSome (.code yX2_sowSome cX2_sowSome 6 (Option.some Jvm.ClassFile.FieldType.int)) 1 [.ref (ad k0), .ref (ad 14), .int a2] D ad cI cM sz μ Q := by
  refine T_meti (by decide +kernel) (Nat.le_of_ble_eq_true rfl) ?_
  intro p e s m below meth c Z ls hx hb hml hown ht hN hK hw hret hl
  have hl : lv_has ls 6 [(0, .ref (ad k0)), (1, .ref (ad 14)), (2, .int a2)] := hl
  generalize s.heap = H at hw ⊢
  generalize ([] : List Loc) = locs at hw ⊢
  change ∃ n0x, wpl_X2_sowSome_5 k0 a2 Q n0x (0 : Int32) (0 : Int32) μ at h
  refine lv_iconst (v := (0 : Int32)) hx hb dX2_sowSome_0 (by decide) ?_
  refine lv_istore_n (lv' := [(3, .int (0 : Int32)), (0, .ref (ad k0)), (1, .ref (ad 14)), (2, .int a2)]) hx hb dX2_sowSome_1 rfl hl (by decide) rfl (fun ls hl => ?_)
  refine lv_iconst (v := (0 : Int32)) hx hb dX2_sowSome_2 (by decide) ?_
  refine lv_istore (lv' := [(4, .int (0 : Int32)), (3, .int (0 : Int32)), (0, .ref (ad k0)), (1, .ref (ad 14)), (2, .int a2)]) hx hb dX2_sowSome_3 hl (by decide) rfl (fun ls hl => ?_)
  obtain ⟨n12, h⟩ := h
  have L0 : ∀ (v4 : Int32), ∀ (n : Nat) (v2 : Int32) (v3 : Int32) (μ5 : TMem) (H : Heap) (locs : List Loc) (ls : Array Slot), TW D ad cI cM s μ5 H locs → lv_has ls 6 [(4, .int v2), (3, .int v3), (0, .ref (ad k0)), (1, .ref (ad 14)), (2, .int v4)] → wpl_X2_sowSome_5 k0 v4 Q n v2 v3 μ5 → W p l e (RM 1) s m #[.ref (ad k0), .ref (ad 14), .int a2] below meth c H locs 0 0 Z (F0 m 5 ls []) := by
    intro v4
    intro n
    induction n with
    | zero => intro v2 v3 μ5 H locs ls hw hl h; exact False.elim h
    | succ n ih0 =>
      intro v2 v3 μ5 H locs ls hw hl h
      change ((μ5 k0 1) ≤ v2 → (Q v3 μ5)) ∧ (¬ (μ5 k0 1) ≤ v2 → (wp_X0_draw μ5 (fun (r8 : Int32) (μ7 : TMem) => (v4 < 0 → (wpl_X2_sowSome_5 k0 v4 Q n (v2 + (1 : Int32)) v3 μ7)) ∧ (¬ v4 < 0 → (¬ (v4 + (1 : Int32)) = 0 ∧ ((¬ (r8 - r8 / (v4 + (1 : Int32)) * (v4 + (1 : Int32))) = 0 → (wpl_X2_sowSome_5 k0 v4 Q n (v2 + (1 : Int32)) v3 μ7)) ∧ ((r8 - r8 / (v4 + (1 : Int32)) * (v4 + (1 : Int32))) = 0 → (wpl_X2_sowSome_5 k0 v4 Q n (v2 + (1 : Int32)) (v3 ||| ((1 : Int32) <<< (v2 &&& 31))) μ7)))))))) at h
      refine lv_iload hx hb dX2_sowSome_5 (lv_at hl 0 rfl) ?_
      refine lv_aload_n hx hb dX2_sowSome_7 rfl (lv_at hl 2 rfl) ?_
      refine gf_X2_15 hx hb ht hown hK hw hk0 dX2_sowSome_8 ?_
      refine lv_icmp_ge (tgt := 46) hx hb dX2_sowSome_11 (by decide) (fun c6 => ?_) (fun c6 => ?_)
      · have h := h.1 c6
        refine lv_iload_n hx hb dX2_sowSome_46 rfl (lv_at hl 1 rfl) ?_
        exact hret H locs ls 47 _ _ hw h rfl dX2_sowSome_47
      have h := h.2 c6
      refine lv_aload_n hx hb dX2_sowSome_14 rfl (lv_at hl 3 rfl) ?_
      refine T_calli hw (va_runV (own := "Leastreader$Machine") (As := []) (rest := []) ⟨hx, hb, hml, hown, ht⟩ (c_X0_draw μ5 H.size h) (cwV 0 ht (G_V q_679 q_680 q_681 q_49 q_682) rfl rfl rfl ⟨rfl, hd_41⟩ ⟨Nat.le_of_ble_eq_true rfl, Nat.le_of_ble_eq_true rfl⟩) ⟨TB.blind, (T_recv hK hw (kd_of rfl (by decide)) (ent_0 rfl) cl_0), TB.pre hK hN hw⟩ rfl rfl hl.1 rfl (lv_room (Nat.le_of_ble_eq_true rfl)) dX2_sowSome_15 ⟨Nat.le_of_ble_eq_true rfl, Nat.le_of_ble_eq_true rfl⟩) (fun r8 μ7 H locs h hw => ?_)
      refine lv_istore (lv' := [(5, .int r8), (4, .int v2), (3, .int v3), (0, .ref (ad k0)), (1, .ref (ad 14)), (2, .int v4)]) hx hb dX2_sowSome_18 hl (by decide) rfl (fun ls hl => ?_)
      refine lv_iload_n hx hb dX2_sowSome_20 rfl (lv_at hl 5 rfl) ?_
      refine lv_if_lt (tgt := 40) hx hb dX2_sowSome_21 (by decide) (fun c9 => ?_) (fun c9 => ?_)
      · have h := h.1 c9
        refine lv_iinc (v := (v2 + (1 : Int32))) (lv' := [(4, .int (v2 + (1 : Int32))), (5, .int r8), (3, .int v3), (0, .ref (ad k0)), (1, .ref (ad 14)), (2, .int v4)]) hx hb dX2_sowSome_40 hl (k := 1) rfl rfl (by decide) rfl (fun ls hl => ?_)
        refine lv_goto (tgt := 5) hx hb dX2_sowSome_43 (by decide) ?_
        exact ih0 (v2 + (1 : Int32)) v3 μ7 H locs ls hw (lv_sub hl [0, 2, 3, 4, 5] rfl) h
      have h := h.2 c9
      refine lv_iload hx hb dX2_sowSome_24 (lv_at hl 0 rfl) ?_
      refine lv_iload_n hx hb dX2_sowSome_26 rfl (lv_at hl 5 rfl) ?_
      refine lv_iconst (v := (1 : Int32)) hx hb dX2_sowSome_27 (by decide) ?_
      refine lv_iadd hx hb dX2_sowSome_28 ?_
      obtain ⟨z10, h⟩ := h
      refine lv_irem hx hb dX2_sowSome_29 z10 ?_
      refine lv_if_ne (tgt := 40) hx hb dX2_sowSome_30 (by decide) (fun c11 => ?_) (fun c11 => ?_)
      · have h := h.1 c11
        refine lv_iinc (v := (v2 + (1 : Int32))) (lv' := [(4, .int (v2 + (1 : Int32))), (5, .int r8), (3, .int v3), (0, .ref (ad k0)), (1, .ref (ad 14)), (2, .int v4)]) hx hb dX2_sowSome_40 hl (k := 1) rfl rfl (by decide) rfl (fun ls hl => ?_)
        refine lv_goto (tgt := 5) hx hb dX2_sowSome_43 (by decide) ?_
        exact ih0 (v2 + (1 : Int32)) v3 μ7 H locs ls hw (lv_sub hl [0, 2, 3, 4, 5] rfl) h
      have h := h.2 c11
      refine lv_iload_n hx hb dX2_sowSome_33 rfl (lv_at hl 2 rfl) ?_
      refine lv_iconst (v := (1 : Int32)) hx hb dX2_sowSome_34 (by decide) ?_
      refine lv_iload hx hb dX2_sowSome_35 (lv_at hl 1 rfl) ?_
      refine lv_ishl hx hb dX2_sowSome_37 ?_
      refine lv_ior hx hb dX2_sowSome_38 ?_
      refine lv_istore_n (lv' := [(3, .int (v3 ||| ((1 : Int32) <<< (v2 &&& 31)))), (5, .int r8), (4, .int v2), (0, .ref (ad k0)), (1, .ref (ad 14)), (2, .int v4)]) hx hb dX2_sowSome_39 rfl hl (by decide) rfl (fun ls hl => ?_)
      refine lv_iinc (v := (v2 + (1 : Int32))) (lv' := [(4, .int (v2 + (1 : Int32))), (3, .int (v3 ||| ((1 : Int32) <<< (v2 &&& 31)))), (5, .int r8), (0, .ref (ad k0)), (1, .ref (ad 14)), (2, .int v4)]) hx hb dX2_sowSome_40 hl (k := 2) rfl rfl (by decide) rfl (fun ls hl => ?_)
      refine lv_goto (tgt := 5) hx hb dX2_sowSome_43 (by decide) ?_
      exact ih0 (v2 + (1 : Int32)) (v3 ||| ((1 : Int32) <<< (v2 &&& 31))) μ7 H locs ls hw (lv_sub hl [0, 1, 3, 4, 5] rfl) h
  exact L0 a2 n12 (0 : Int32) (0 : Int32) μ H locs ls hw (lv_sub hl [0, 1, 2, 3, 4] rfl) h
def wpl_X2_sowArrows_13 (k0 : Nat) (v8 : Int32) (v9 : Int32) (K50 : TMem → Prop) : Nat → Int32 → TMem → Prop
  | 0, _, _ => False
  | n + 1, v7, μ10 =>
    ((3 : Int32) ≤ v7 → (K50 μ10)) ∧ (¬ (3 : Int32) ≤ v7 → (∀ J12 : Int32 → TMem → Prop, (∀ (j13 : Int32) (μ14 : TMem), (wp_X7_put k0 μ14 v8 v7 j13 (fun (μ15 : TMem) => wpl_X2_sowArrows_13 k0 v8 v9 K50 n (v7 + (1 : Int32)) μ15)) → J12 j13 μ14) → ((¬ v9 = 0 → (wp_X2_sowSome k0 μ10 v9 (fun (r18 : Int32) (μ17 : TMem) => J12 r18 μ17))) ∧ (v9 = 0 → (wp_X2_sowOne k0 μ10 (fun (r20 : Int32) (μ19 : TMem) => J12 r20 μ19))))))
def wpl_X2_sowArrows_2 (k0 : Nat) (v3 : Int32) (Q : TMem → Prop) : Nat → Int32 → TMem → Prop
  | 0, _, _ => False
  | n + 1, v2, μ4 =>
    ((μ4 k0 1) ≤ v2 → (Q μ4)) ∧ (¬ (μ4 k0 1) ≤ v2 → (∃ n5x, wpl_X2_sowArrows_13 k0 v2 v3 (fun (μ22 : TMem) => wpl_X2_sowArrows_2 k0 v3 Q n (v2 + (1 : Int32)) μ22) n5x (0 : Int32) μ4))
def wp_X2_sowArrows (k0 : Nat) (μ : TMem) (a2 : Int32) (Q : TMem → Prop) : Prop :=
  ∃ n0x, wpl_X2_sowArrows_2 k0 a2 Q n0x (0 : Int32) μ
set_option maxHeartbeats 4000000 in
set_option maxRecDepth 100000 in
theorem c_X2_sowArrows {l : Launch} {D : va_G} {ad : Nat → Nat} {cI cM : ClassId} (k0 : Nat) (hk0 : kd k0 = 2) (μ : TMem) (sz : Nat) (a2 : Int32) {Q : TMem → Prop} (h : wp_X2_sowArrows k0 μ a2 Q) : TMv l yX2_sowArrows (.code yX2_sowArrows cX2_sowArrows 5 (Option.none : Option Jvm.ClassFile.FieldType)) 2 [.ref (ad k0), .ref (ad 14), .int a2] D ad cI cM sz μ Q := by
  refine T_metv (by decide +kernel) (Nat.le_of_ble_eq_true rfl) ?_
  intro p e s m below meth c Z ls hx hb hml hown ht hN hK hw hret hl
  have hl : lv_has ls 5 [(0, .ref (ad k0)), (1, .ref (ad 14)), (2, .int a2)] := hl
  generalize s.heap = H at hw ⊢
  generalize ([] : List Loc) = locs at hw ⊢
  change ∃ n0x, wpl_X2_sowArrows_2 k0 a2 Q n0x (0 : Int32) μ at h
  refine lv_iconst (v := (0 : Int32)) hx hb dX2_sowArrows_0 (by decide) ?_
  refine lv_istore_n (lv' := [(3, .int (0 : Int32)), (0, .ref (ad k0)), (1, .ref (ad 14)), (2, .int a2)]) hx hb dX2_sowArrows_1 rfl hl (by decide) rfl (fun ls hl => ?_)
  obtain ⟨n23, h⟩ := h
  have L0 : ∀ (v3 : Int32), ∀ (n : Nat) (v2 : Int32) (μ4 : TMem) (H : Heap) (locs : List Loc) (ls : Array Slot), TW D ad cI cM s μ4 H locs → lv_has ls 5 [(3, .int v2), (0, .ref (ad k0)), (1, .ref (ad 14)), (2, .int v3)] → wpl_X2_sowArrows_2 k0 v3 Q n v2 μ4 → W p l e (RM 2) s m #[.ref (ad k0), .ref (ad 14), .int a2] below meth c H locs 0 0 Z (F0 m 2 ls []) := by
    intro v3
    intro n
    induction n with
    | zero => intro v2 μ4 H locs ls hw hl h; exact False.elim h
    | succ n ih0 =>
      intro v2 μ4 H locs ls hw hl h
      change ((μ4 k0 1) ≤ v2 → (Q μ4)) ∧ (¬ (μ4 k0 1) ≤ v2 → (∃ n5x, wpl_X2_sowArrows_13 k0 v2 v3 (fun (μ22 : TMem) => wpl_X2_sowArrows_2 k0 v3 Q n (v2 + (1 : Int32)) μ22) n5x (0 : Int32) μ4)) at h
      refine lv_iload_n hx hb dX2_sowArrows_2 rfl (lv_at hl 0 rfl) ?_
      refine lv_aload_n hx hb dX2_sowArrows_3 rfl (lv_at hl 1 rfl) ?_
      refine gf_X2_15 hx hb ht hown hK hw hk0 dX2_sowArrows_4 ?_
      refine lv_icmp_ge (tgt := 56) hx hb dX2_sowArrows_7 (by decide) (fun c5 => ?_) (fun c5 => ?_)
      · have h := h.1 c5
        exact hret H locs ls 56 _ hw h dX2_sowArrows_56
      have h := h.2 c5
      refine lv_iconst (v := (0 : Int32)) hx hb dX2_sowArrows_10 (by decide) ?_
      refine lv_istore (lv' := [(4, .int (0 : Int32)), (3, .int v2), (0, .ref (ad k0)), (1, .ref (ad 14)), (2, .int v3)]) hx hb dX2_sowArrows_11 hl (by decide) rfl (fun ls hl => ?_)
      obtain ⟨n21, h⟩ := h
      have L5 : ∀ (v8 : Int32) (v9 : Int32) (K50 : TMem → Prop), (∀ (μ10 : TMem) (H : Heap) (locs : List Loc) (ls : Array Slot), TW D ad cI cM s μ10 H locs → lv_has ls 5 [(3, .int v8), (0, .ref (ad k0)), (1, .ref (ad 14)), (2, .int v9)] → K50 μ10 → W p l e (RM 2) s m #[.ref (ad k0), .ref (ad 14), .int a2] below meth c H locs 0 0 Z (F0 m 50 ls [])) → ∀ (n : Nat) (v7 : Int32) (μ10 : TMem) (H : Heap) (locs : List Loc) (ls : Array Slot), TW D ad cI cM s μ10 H locs → lv_has ls 5 [(4, .int v7), (3, .int v8), (0, .ref (ad k0)), (1, .ref (ad 14)), (2, .int v9)] → wpl_X2_sowArrows_13 k0 v8 v9 K50 n v7 μ10 → W p l e (RM 2) s m #[.ref (ad k0), .ref (ad 14), .int a2] below meth c H locs 0 0 Z (F0 m 13 ls []) := by
        intro v8 v9 K50 hK50
        intro n
        induction n with
        | zero => intro v7 μ10 H locs ls hw hl h; exact False.elim h
        | succ n ih5 =>
          intro v7 μ10 H locs ls hw hl h
          change ((3 : Int32) ≤ v7 → (K50 μ10)) ∧ (¬ (3 : Int32) ≤ v7 → (∀ J12 : Int32 → TMem → Prop, (∀ (j13 : Int32) (μ14 : TMem), (wp_X7_put k0 μ14 v8 v7 j13 (fun (μ15 : TMem) => wpl_X2_sowArrows_13 k0 v8 v9 K50 n (v7 + (1 : Int32)) μ15)) → J12 j13 μ14) → ((¬ v9 = 0 → (wp_X2_sowSome k0 μ10 v9 (fun (r18 : Int32) (μ17 : TMem) => J12 r18 μ17))) ∧ (v9 = 0 → (wp_X2_sowOne k0 μ10 (fun (r20 : Int32) (μ19 : TMem) => J12 r20 μ19)))))) at h
          refine lv_iload hx hb dX2_sowArrows_13 (lv_at hl 0 rfl) ?_
          refine lv_iconst (v := (3 : Int32)) hx hb dX2_sowArrows_15 (by decide) ?_
          refine lv_icmp_ge (tgt := 50) hx hb dX2_sowArrows_16 (by decide) (fun c11 => ?_) (fun c11 => ?_)
          · have h := h.1 c11
            exact hK50 μ10 H locs ls hw (lv_sub hl [1, 2, 3, 4] rfl) h
          have h := h.2 c11
          refine lv_aload_n hx hb dX2_sowArrows_19 rfl (lv_at hl 2 rfl) ?_
          refine lv_iload_n hx hb dX2_sowArrows_20 rfl (lv_at hl 1 rfl) ?_
          refine lv_iload hx hb dX2_sowArrows_21 (lv_at hl 0 rfl) ?_
          refine lv_iload_n hx hb dX2_sowArrows_23 rfl (lv_at hl 4 rfl) ?_
          have h := h (fun j13 μ14 => ∀ (H : Heap) (locs : List Loc) (ls : Array Slot), TW D ad cI cM s μ14 H locs → lv_has ls 5 [(4, .int v7), (3, .int v8), (0, .ref (ad k0)), (1, .ref (ad 14)), (2, .int v9)] → W p l e (RM 2) s m #[.ref (ad k0), .ref (ad 14), .int a2] below meth c H locs 0 0 Z (F0 m 41 ls [.int j13, .int v7, .int v8, .ref (ad k0)])) (fun j13 μ14 h H locs ls hw hl => by
            refine T_callv hw (va_runU (own := "Leastreader$Machine") (As := [.int v8, .int v7, .int j13]) (rest := []) ⟨hx, hb, hml, hown, ht⟩ (c_X7_put_2 k0 hk0 μ14 H.size v8 v7 j13 h) (va_cwU (owner := "Leastreader$Table") 3 ht (G_U q_444 q_445 q_446 q_430 q_47 q_431) rfl rfl rfl rfl hd_1 ⟨Nat.le_of_ble_eq_true rfl, Nat.le_of_ble_eq_true rfl⟩) ⟨TB.blind, (T_recv hK hw (kd_of hk0 (by decide)) (ent_2 hk0) cl_2), TB.pre hK hN hw⟩ rfl rfl hl.1 rfl (lv_room (Nat.le_of_ble_eq_true rfl)) dX2_sowArrows_41 ⟨Nat.le_of_ble_eq_true rfl, Nat.le_of_ble_eq_true rfl⟩) (fun μ15 H locs h hw => ?_)
            refine lv_iinc (v := (v7 + (1 : Int32))) (lv' := [(4, .int (v7 + (1 : Int32))), (3, .int v8), (0, .ref (ad k0)), (1, .ref (ad 14)), (2, .int v9)]) hx hb dX2_sowArrows_44 hl (k := 0) rfl rfl (by decide) rfl (fun ls hl => ?_)
            refine lv_goto (tgt := 13) hx hb dX2_sowArrows_47 (by decide) ?_
            exact ih5 (v7 + (1 : Int32)) μ15 H locs ls hw (lv_sub hl [0, 1, 2, 3, 4] rfl) h)
          refine lv_if_ne (tgt := 35) hx hb dX2_sowArrows_24 (by decide) (fun c16 => ?_) (fun c16 => ?_)
          · have h := h.1 c16
            refine lv_aload_n hx hb dX2_sowArrows_35 rfl (lv_at hl 2 rfl) ?_
            refine lv_aload_n hx hb dX2_sowArrows_36 rfl (lv_at hl 3 rfl) ?_
            refine lv_iload_n hx hb dX2_sowArrows_37 rfl (lv_at hl 4 rfl) ?_
            refine T_calli hw (va_runV (own := "Leastreader$Machine") (As := [.ref (ad 14), .int v9]) (rest := [.int v7, .int v8, .ref (ad k0)]) ⟨hx, hb, hml, hown, ht⟩ (c_X2_sowSome k0 hk0 μ10 H.size v9 h) (cwV 2 ht (G_V q_684 q_686 q_15 q_48 q_687) rfl rfl rfl ⟨rfl, hd_42⟩ ⟨Nat.le_of_ble_eq_true rfl, Nat.le_of_ble_eq_true rfl⟩) ⟨TB.blind, (T_recv hK hw (kd_of hk0 (by decide)) (ent_2 hk0) cl_2), TB.pre hK hN hw⟩ rfl rfl hl.1 rfl (lv_room (Nat.le_of_ble_eq_true rfl)) dX2_sowArrows_38 ⟨Nat.le_of_ble_eq_true rfl, Nat.le_of_ble_eq_true rfl⟩) (fun r18 μ17 H locs h hw => ?_)
            exact h H locs ls hw (lv_sub hl [0, 1, 2, 3, 4] rfl)
          have h := h.2 c16
          refine lv_aload_n hx hb dX2_sowArrows_27 rfl (lv_at hl 2 rfl) ?_
          refine lv_aload_n hx hb dX2_sowArrows_28 rfl (lv_at hl 3 rfl) ?_
          refine T_calli hw (va_runV (own := "Leastreader$Machine") (As := [.ref (ad 14)]) (rest := [.int v7, .int v8, .ref (ad k0)]) ⟨hx, hb, hml, hown, ht⟩ (c_X2_sowOne k0 hk0 μ10 H.size h) (cwV 1 ht (G_V q_675 q_677 q_14 q_48 q_678) rfl rfl rfl ⟨rfl, hd_43⟩ ⟨Nat.le_of_ble_eq_true rfl, Nat.le_of_ble_eq_true rfl⟩) ⟨TB.blind, (T_recv hK hw (kd_of hk0 (by decide)) (ent_2 hk0) cl_2), TB.pre hK hN hw⟩ rfl rfl hl.1 rfl (lv_room (Nat.le_of_ble_eq_true rfl)) dX2_sowArrows_29 ⟨Nat.le_of_ble_eq_true rfl, Nat.le_of_ble_eq_true rfl⟩) (fun r20 μ19 H locs h hw => ?_)
          refine lv_goto (tgt := 41) hx hb dX2_sowArrows_32 (by decide) ?_
          exact h H locs ls hw (lv_sub hl [0, 1, 2, 3, 4] rfl)
      refine L5 v2 v3 _ ?_ n21 (0 : Int32) μ4 H locs ls hw (lv_sub hl [0, 1, 2, 3, 4] rfl) h
      intro μ22 H locs ls hw hl h
      refine lv_iinc (v := (v2 + (1 : Int32))) (lv' := [(3, .int (v2 + (1 : Int32))), (0, .ref (ad k0)), (1, .ref (ad 14)), (2, .int v3)]) hx hb dX2_sowArrows_50 hl (k := 0) rfl rfl (by decide) rfl (fun ls hl => ?_)
      refine lv_goto (tgt := 2) hx hb dX2_sowArrows_53 (by decide) ?_
      exact ih0 (v2 + (1 : Int32)) μ22 H locs ls hw (lv_sub hl [0, 1, 2, 3] rfl) h
  exact L0 a2 n23 (0 : Int32) μ H locs ls hw (lv_sub hl [0, 1, 2, 3] rfl) h
def wpl_X2_sowGoals_2 (k0 : Nat) (Q : TMem → Prop) : Nat → Int32 → TMem → Prop
  | 0, _, _ => False
  | n + 1, v2, μ3 =>
    ((μ3 k0 1) ≤ v2 → (Q μ3)) ∧ (¬ (μ3 k0 1) ≤ v2 → (wp_X0_draw μ3 (fun (r6 : Int32) (μ5 : TMem) => (¬ (r6 - r6 / (2 : Int32) * (2 : Int32)) = 0 → (wpl_X2_sowGoals_2 k0 Q n (v2 + (1 : Int32)) μ5)) ∧ ((r6 - r6 / (2 : Int32) * (2 : Int32)) = 0 → (wpl_X2_sowGoals_2 k0 Q n (v2 + (1 : Int32)) (tms μ5 k0 2 ((μ5 k0 2) ||| ((1 : Int32) <<< (v2 &&& 31)))))))))
def wp_X2_sowGoals (k0 : Nat) (μ : TMem) (Q : TMem → Prop) : Prop :=
  ∃ n0x, wpl_X2_sowGoals_2 k0 Q n0x (0 : Int32) μ
set_option maxHeartbeats 4000000 in
set_option maxRecDepth 100000 in
theorem c_X2_sowGoals {l : Launch} {D : va_G} {ad : Nat → Nat} {cI cM : ClassId} (k0 : Nat) (hk0 : kd k0 = 2) (μ : TMem) (sz : Nat)  {Q : TMem → Prop} (h : wp_X2_sowGoals k0 μ Q) : TMv l yX2_sowGoals (.code yX2_sowGoals cX2_sowGoals 3 (Option.none : Option Jvm.ClassFile.FieldType)) 1 [.ref (ad k0), .ref (ad 14)] D ad cI cM sz μ Q := by
  refine T_metv (by decide +kernel) (Nat.le_of_ble_eq_true rfl) ?_
  intro p e s m below meth c Z ls hx hb hml hown ht hN hK hw hret hl
  have hl : lv_has ls 3 [(0, .ref (ad k0)), (1, .ref (ad 14))] := hl
  generalize s.heap = H at hw ⊢
  generalize ([] : List Loc) = locs at hw ⊢
  change ∃ n0x, wpl_X2_sowGoals_2 k0 Q n0x (0 : Int32) μ at h
  refine lv_iconst (v := (0 : Int32)) hx hb dX2_sowGoals_0 (by decide) ?_
  refine lv_istore_n (lv' := [(2, .int (0 : Int32)), (0, .ref (ad k0)), (1, .ref (ad 14))]) hx hb dX2_sowGoals_1 rfl hl (by decide) rfl (fun ls hl => ?_)
  obtain ⟨n8, h⟩ := h
  have L0 : ∀ (n : Nat) (v2 : Int32) (μ3 : TMem) (H : Heap) (locs : List Loc) (ls : Array Slot), TW D ad cI cM s μ3 H locs → lv_has ls 3 [(2, .int v2), (0, .ref (ad k0)), (1, .ref (ad 14))] → wpl_X2_sowGoals_2 k0 Q n v2 μ3 → W p l e (RM 1) s m #[.ref (ad k0), .ref (ad 14)] below meth c H locs 0 0 Z (F0 m 2 ls []) := by
    intro n
    induction n with
    | zero => intro v2 μ3 H locs ls hw hl h; exact False.elim h
    | succ n ih0 =>
      intro v2 μ3 H locs ls hw hl h
      change ((μ3 k0 1) ≤ v2 → (Q μ3)) ∧ (¬ (μ3 k0 1) ≤ v2 → (wp_X0_draw μ3 (fun (r6 : Int32) (μ5 : TMem) => (¬ (r6 - r6 / (2 : Int32) * (2 : Int32)) = 0 → (wpl_X2_sowGoals_2 k0 Q n (v2 + (1 : Int32)) μ5)) ∧ ((r6 - r6 / (2 : Int32) * (2 : Int32)) = 0 → (wpl_X2_sowGoals_2 k0 Q n (v2 + (1 : Int32)) (tms μ5 k0 2 ((μ5 k0 2) ||| ((1 : Int32) <<< (v2 &&& 31))))))))) at h
      refine lv_iload_n hx hb dX2_sowGoals_2 rfl (lv_at hl 0 rfl) ?_
      refine lv_aload_n hx hb dX2_sowGoals_3 rfl (lv_at hl 1 rfl) ?_
      refine gf_X2_15 hx hb ht hown hK hw hk0 dX2_sowGoals_4 ?_
      refine lv_icmp_ge (tgt := 37) hx hb dX2_sowGoals_7 (by decide) (fun c4 => ?_) (fun c4 => ?_)
      · have h := h.1 c4
        exact hret H locs ls 37 _ hw h dX2_sowGoals_37
      have h := h.2 c4
      refine lv_aload_n hx hb dX2_sowGoals_10 rfl (lv_at hl 2 rfl) ?_
      refine T_calli hw (va_runV (own := "Leastreader$Machine") (As := []) (rest := []) ⟨hx, hb, hml, hown, ht⟩ (c_X0_draw μ3 H.size h) (cwV 0 ht (G_V q_679 q_680 q_681 q_49 q_682) rfl rfl rfl ⟨rfl, hd_41⟩ ⟨Nat.le_of_ble_eq_true rfl, Nat.le_of_ble_eq_true rfl⟩) ⟨TB.blind, (T_recv hK hw (kd_of rfl (by decide)) (ent_0 rfl) cl_0), TB.pre hK hN hw⟩ rfl rfl hl.1 rfl (lv_room (Nat.le_of_ble_eq_true rfl)) dX2_sowGoals_11 ⟨Nat.le_of_ble_eq_true rfl, Nat.le_of_ble_eq_true rfl⟩) (fun r6 μ5 H locs h hw => ?_)
      refine lv_iconst (v := (2 : Int32)) hx hb dX2_sowGoals_14 (by decide) ?_
      refine lv_irem hx hb dX2_sowGoals_15 (by decide) ?_
      refine lv_if_ne (tgt := 31) hx hb dX2_sowGoals_16 (by decide) (fun c7 => ?_) (fun c7 => ?_)
      · have h := h.1 c7
        refine lv_iinc (v := (v2 + (1 : Int32))) (lv' := [(2, .int (v2 + (1 : Int32))), (0, .ref (ad k0)), (1, .ref (ad 14))]) hx hb dX2_sowGoals_31 hl (k := 0) rfl rfl (by decide) rfl (fun ls hl => ?_)
        refine lv_goto (tgt := 2) hx hb dX2_sowGoals_34 (by decide) ?_
        exact ih0 (v2 + (1 : Int32)) μ5 H locs ls hw (lv_sub hl [0, 1, 2] rfl) h
      have h := h.2 c7
      refine lv_aload_n hx hb dX2_sowGoals_19 rfl (lv_at hl 1 rfl) ?_
      refine lv_dup hx hb dX2_sowGoals_20 rfl ?_
      refine gf_X2_18 hx hb ht hown hK hw hk0 dX2_sowGoals_21 ?_
      refine lv_iconst (v := (1 : Int32)) hx hb dX2_sowGoals_24 (by decide) ?_
      refine lv_iload_n hx hb dX2_sowGoals_25 rfl (lv_at hl 0 rfl) ?_
      refine lv_ishl hx hb dX2_sowGoals_26 ?_
      refine lv_ior hx hb dX2_sowGoals_27 ?_
      refine pgf_X2_18 hx hb ht hown hK hw hk0 dX2_sowGoals_28 (fun H locs hw => ?_)
      refine lv_iinc (v := (v2 + (1 : Int32))) (lv' := [(2, .int (v2 + (1 : Int32))), (0, .ref (ad k0)), (1, .ref (ad 14))]) hx hb dX2_sowGoals_31 hl (k := 0) rfl rfl (by decide) rfl (fun ls hl => ?_)
      refine lv_goto (tgt := 2) hx hb dX2_sowGoals_34 (by decide) ?_
      exact ih0 (v2 + (1 : Int32)) (tms μ5 k0 2 ((μ5 k0 2) ||| ((1 : Int32) <<< (v2 &&& 31)))) H locs ls hw (lv_sub hl [0, 1, 2] rfl) h
  exact L0 n8 (0 : Int32) μ H locs ls hw (lv_sub hl [0, 1, 2] rfl) h
def wpl_X7_isSameTable_36 (k0 : Nat) (k1 : Nat) (μ : TMem) (v8 : Int32) (K64 : Prop) (Q : Int32 → Prop) : Nat → Int32 → Prop
  | 0, _ => False
  | n + 1, v7 =>
    ((3 : Int32) ≤ v7 → (K64)) ∧ (¬ (3 : Int32) ≤ v7 → (wp_X7_at k0 μ v8 v7 (fun (r10 : Int32) => wp_X7_at k1 μ v8 v7 (fun (r13 : Int32) => (r10 = r13 → (wpl_X7_isSameTable_36 k0 k1 μ v8 K64 Q n (v7 + (1 : Int32)))) ∧ (¬ r10 = r13 → (Q (0 : Int32)))))))
def wpl_X7_isSameTable_26 (k0 : Nat) (k1 : Nat) (μ : TMem) (Q : Int32 → Prop) : Nat → Int32 → Prop
  | 0, _ => False
  | n + 1, v4 =>
    ((μ k0 1) ≤ v4 → (Q (1 : Int32))) ∧ (¬ (μ k0 1) ≤ v4 → (∃ n5x, wpl_X7_isSameTable_36 k0 k1 μ v4 (wpl_X7_isSameTable_26 k0 k1 μ Q n (v4 + (1 : Int32))) Q n5x (0 : Int32)))
def wp_X7_isSameTable (k0 : Nat) (k1 : Nat) (μ : TMem) (Q : Int32 → Prop) : Prop :=
  (¬ (μ k0 1) = (μ k1 1) → (Q (0 : Int32))) ∧ ((μ k0 1) = (μ k1 1) → (((μ k0 2) = (μ k1 2) → (∃ n2x, wpl_X7_isSameTable_26 k0 k1 μ Q n2x (0 : Int32))) ∧ (¬ (μ k0 2) = (μ k1 2) → (Q (0 : Int32)))))
set_option maxHeartbeats 4000000 in
set_option maxRecDepth 100000 in
theorem c_X7_isSameTable_2 {l : Launch} {D : va_G} {ad : Nat → Nat} {cI cM : ClassId} (k0 : Nat) (hk0 : kd k0 = 2) (k1 : Nat) (hk1 : kd k1 = 2) (μ : TMem) (sz : Nat)  {Q : Int32 → Prop} (h : wp_X7_isSameTable k0 k1 μ Q) : TMi l yX7_isSameTable (.code yX7_isSameTable cX7_isSameTable 4 (Option.some Jvm.ClassFile.FieldType.boolean)) 1 [.ref (ad k0), .ref (ad k1)] D ad cI cM sz μ (fun r μ1 => μ1 = μ ∧ Q r) := by
  refine T_meti (by decide +kernel) (Nat.le_of_ble_eq_true rfl) ?_
  intro p e s m below meth c Z ls hx hb hml hown ht hN hK hw hret hl
  have hl : lv_has ls 4 [(0, .ref (ad k0)), (1, .ref (ad k1))] := hl
  generalize s.heap = H at hw ⊢
  generalize ([] : List Loc) = locs at hw ⊢
  change (¬ (μ k0 1) = (μ k1 1) → (Q (0 : Int32))) ∧ ((μ k0 1) = (μ k1 1) → (((μ k0 2) = (μ k1 2) → (∃ n2x, wpl_X7_isSameTable_26 k0 k1 μ Q n2x (0 : Int32))) ∧ (¬ (μ k0 2) = (μ k1 2) → (Q (0 : Int32))))) at h
  refine lv_aload_n hx hb dX7_isSameTable_0 rfl (lv_at hl 0 rfl) ?_
  refine gf_X7_9 hx hb ht hown hK hw (Or.inl hk0) dX7_isSameTable_1 ?_
  refine lv_aload_n hx hb dX7_isSameTable_4 rfl (lv_at hl 1 rfl) ?_
  refine gf_X7_9 hx hb ht hown hK hw (Or.inl hk1) dX7_isSameTable_5 ?_
  refine lv_icmp_ne (tgt := 22) hx hb dX7_isSameTable_8 (by decide) (fun c1 => ?_) (fun c1 => ?_)
  · have h := h.1 c1
    refine lv_iconst (v := (0 : Int32)) hx hb dX7_isSameTable_22 (by decide) ?_
    exact hret H locs ls 23 _ _ hw ⟨rfl, h⟩ rfl dX7_isSameTable_23
  have h := h.2 c1
  refine lv_aload_n hx hb dX7_isSameTable_11 rfl (lv_at hl 0 rfl) ?_
  refine gf_X7_19 hx hb ht hown hK hw (Or.inl hk0) dX7_isSameTable_12 ?_
  refine lv_aload_n hx hb dX7_isSameTable_15 rfl (lv_at hl 1 rfl) ?_
  refine gf_X7_19 hx hb ht hown hK hw (Or.inl hk1) dX7_isSameTable_16 ?_
  refine lv_icmp_eq (tgt := 24) hx hb dX7_isSameTable_19 (by decide) (fun c2 => ?_) (fun c2 => ?_)
  · have h := h.1 c2
    refine lv_iconst (v := (0 : Int32)) hx hb dX7_isSameTable_24 (by decide) ?_
    refine lv_istore_n (lv' := [(2, .int (0 : Int32)), (0, .ref (ad k0)), (1, .ref (ad k1))]) hx hb dX7_isSameTable_25 rfl hl (by decide) rfl (fun ls hl => ?_)
    obtain ⟨n18, h⟩ := h
    have L2 : ∀ (n : Nat) (v4 : Int32) (H : Heap) (locs : List Loc) (ls : Array Slot), TW D ad cI cM s μ H locs → lv_has ls 4 [(2, .int v4), (0, .ref (ad k0)), (1, .ref (ad k1))] → wpl_X7_isSameTable_26 k0 k1 μ Q n v4 → W p l e (RM 1) s m #[.ref (ad k0), .ref (ad k1)] below meth c H locs 0 0 Z (F0 m 26 ls []) := by
      intro n
      induction n with
      | zero => intro v4 H locs ls hw hl h; exact False.elim h
      | succ n ih2 =>
        intro v4 H locs ls hw hl h
        change ((μ k0 1) ≤ v4 → (Q (1 : Int32))) ∧ (¬ (μ k0 1) ≤ v4 → (∃ n5x, wpl_X7_isSameTable_36 k0 k1 μ v4 (wpl_X7_isSameTable_26 k0 k1 μ Q n (v4 + (1 : Int32))) Q n5x (0 : Int32))) at h
        refine lv_iload_n hx hb dX7_isSameTable_26 rfl (lv_at hl 0 rfl) ?_
        refine lv_aload_n hx hb dX7_isSameTable_27 rfl (lv_at hl 1 rfl) ?_
        refine gf_X7_9 hx hb ht hown hK hw (Or.inl hk0) dX7_isSameTable_28 ?_
        refine lv_icmp_ge (tgt := 70) hx hb dX7_isSameTable_31 (by decide) (fun c5 => ?_) (fun c5 => ?_)
        · have h := h.1 c5
          refine lv_iconst (v := (1 : Int32)) hx hb dX7_isSameTable_70 (by decide) ?_
          exact hret H locs ls 71 _ _ hw ⟨rfl, h⟩ rfl dX7_isSameTable_71
        have h := h.2 c5
        refine lv_iconst (v := (0 : Int32)) hx hb dX7_isSameTable_34 (by decide) ?_
        refine lv_istore_n (lv' := [(3, .int (0 : Int32)), (2, .int v4), (0, .ref (ad k0)), (1, .ref (ad k1))]) hx hb dX7_isSameTable_35 rfl hl (by decide) rfl (fun ls hl => ?_)
        obtain ⟨n17, h⟩ := h
        have L5 : ∀ (v8 : Int32) (K64 : Prop), (∀ (H : Heap) (locs : List Loc) (ls : Array Slot), TW D ad cI cM s μ H locs → lv_has ls 4 [(2, .int v8), (0, .ref (ad k0)), (1, .ref (ad k1))] → K64 → W p l e (RM 1) s m #[.ref (ad k0), .ref (ad k1)] below meth c H locs 0 0 Z (F0 m 64 ls [])) → ∀ (n : Nat) (v7 : Int32) (H : Heap) (locs : List Loc) (ls : Array Slot), TW D ad cI cM s μ H locs → lv_has ls 4 [(3, .int v7), (2, .int v8), (0, .ref (ad k0)), (1, .ref (ad k1))] → wpl_X7_isSameTable_36 k0 k1 μ v8 K64 Q n v7 → W p l e (RM 1) s m #[.ref (ad k0), .ref (ad k1)] below meth c H locs 0 0 Z (F0 m 36 ls []) := by
          intro v8 K64 hK64
          intro n
          induction n with
          | zero => intro v7 H locs ls hw hl h; exact False.elim h
          | succ n ih5 =>
            intro v7 H locs ls hw hl h
            change ((3 : Int32) ≤ v7 → (K64)) ∧ (¬ (3 : Int32) ≤ v7 → (wp_X7_at k0 μ v8 v7 (fun (r10 : Int32) => wp_X7_at k1 μ v8 v7 (fun (r13 : Int32) => (r10 = r13 → (wpl_X7_isSameTable_36 k0 k1 μ v8 K64 Q n (v7 + (1 : Int32)))) ∧ (¬ r10 = r13 → (Q (0 : Int32))))))) at h
            refine lv_iload_n hx hb dX7_isSameTable_36 rfl (lv_at hl 0 rfl) ?_
            refine lv_iconst (v := (3 : Int32)) hx hb dX7_isSameTable_37 (by decide) ?_
            refine lv_icmp_ge (tgt := 64) hx hb dX7_isSameTable_38 (by decide) (fun c9 => ?_) (fun c9 => ?_)
            · have h := h.1 c9
              exact hK64 H locs ls hw (lv_sub hl [1, 2, 3] rfl) h
            have h := h.2 c9
            refine lv_aload_n hx hb dX7_isSameTable_41 rfl (lv_at hl 2 rfl) ?_
            refine lv_iload_n hx hb dX7_isSameTable_42 rfl (lv_at hl 1 rfl) ?_
            refine lv_iload_n hx hb dX7_isSameTable_43 rfl (lv_at hl 0 rfl) ?_
            refine T_calli hw (va_runU (own := "Leastreader$Table") (As := [.int v8, .int v7]) (rest := []) ⟨hx, hb, hml, hown, ht⟩ (c_X7_at_2 k0 hk0 μ H.size v8 v7 h) (va_cwU (owner := "Leastreader$Table") 2 ht (G_U q_526 q_1604 q_1605 q_416 q_47 q_417) rfl rfl rfl rfl hd_0 ⟨Nat.le_of_ble_eq_true rfl, Nat.le_of_ble_eq_true rfl⟩) ⟨TB.blind, (T_recv hK hw (kd_of hk0 (by decide)) (ent_2 hk0) cl_2), TB.pre hK hN hw⟩ rfl rfl hl.1 rfl (lv_room (Nat.le_of_ble_eq_true rfl)) dX7_isSameTable_44 ⟨Nat.le_of_ble_eq_true rfl, Nat.le_of_ble_eq_true rfl⟩) (fun r10 μ11 H locs h hw => ?_)
            obtain ⟨e12, h⟩ := h
            rw [e12] at hw
            refine lv_aload_n hx hb dX7_isSameTable_47 rfl (lv_at hl 3 rfl) ?_
            refine lv_iload_n hx hb dX7_isSameTable_48 rfl (lv_at hl 1 rfl) ?_
            refine lv_iload_n hx hb dX7_isSameTable_49 rfl (lv_at hl 0 rfl) ?_
            refine T_calli hw (va_runU (own := "Leastreader$Table") (As := [.int v8, .int v7]) (rest := [.int r10]) ⟨hx, hb, hml, hown, ht⟩ (c_X7_at_2 k1 hk1 μ H.size v8 v7 h) (va_cwU (owner := "Leastreader$Table") 2 ht (G_U q_526 q_1604 q_1605 q_416 q_47 q_417) rfl rfl rfl rfl hd_0 ⟨Nat.le_of_ble_eq_true rfl, Nat.le_of_ble_eq_true rfl⟩) ⟨TB.blind, (T_recv hK hw (kd_of hk1 (by decide)) (ent_2 hk1) cl_2), TB.pre hK hN hw⟩ rfl rfl hl.1 rfl (lv_room (Nat.le_of_ble_eq_true rfl)) dX7_isSameTable_50 ⟨Nat.le_of_ble_eq_true rfl, Nat.le_of_ble_eq_true rfl⟩) (fun r13 μ14 H locs h hw => ?_)
            obtain ⟨e15, h⟩ := h
            rw [e15] at hw
            refine lv_icmp_eq (tgt := 58) hx hb dX7_isSameTable_53 (by decide) (fun c16 => ?_) (fun c16 => ?_)
            · have h := h.1 c16
              refine lv_iinc (v := (v7 + (1 : Int32))) (lv' := [(3, .int (v7 + (1 : Int32))), (2, .int v8), (0, .ref (ad k0)), (1, .ref (ad k1))]) hx hb dX7_isSameTable_58 hl (k := 0) rfl rfl (by decide) rfl (fun ls hl => ?_)
              refine lv_goto (tgt := 36) hx hb dX7_isSameTable_61 (by decide) ?_
              exact ih5 (v7 + (1 : Int32)) H locs ls hw (lv_sub hl [0, 1, 2, 3] rfl) h
            have h := h.2 c16
            refine lv_iconst (v := (0 : Int32)) hx hb dX7_isSameTable_56 (by decide) ?_
            exact hret H locs ls 57 _ _ hw ⟨rfl, h⟩ rfl dX7_isSameTable_57
        refine L5 v4 _ ?_ n17 (0 : Int32) H locs ls hw (lv_sub hl [0, 1, 2, 3] rfl) h
        intro H locs ls hw hl h
        refine lv_iinc (v := (v4 + (1 : Int32))) (lv' := [(2, .int (v4 + (1 : Int32))), (0, .ref (ad k0)), (1, .ref (ad k1))]) hx hb dX7_isSameTable_64 hl (k := 0) rfl rfl (by decide) rfl (fun ls hl => ?_)
        refine lv_goto (tgt := 26) hx hb dX7_isSameTable_67 (by decide) ?_
        exact ih2 (v4 + (1 : Int32)) H locs ls hw (lv_sub hl [0, 1, 2] rfl) h
    exact L2 n18 (0 : Int32) H locs ls hw (lv_sub hl [0, 1, 2] rfl) h
  have h := h.2 c2
  refine lv_iconst (v := (0 : Int32)) hx hb dX7_isSameTable_22 (by decide) ?_
  exact hret H locs ls 23 _ _ hw ⟨rfl, h⟩ rfl dX7_isSameTable_23
set_option maxHeartbeats 4000000 in
set_option maxRecDepth 100000 in
theorem c_X7_isSameTable_5 {l : Launch} {D : va_G} {ad : Nat → Nat} {cI cM : ClassId} (k0 : Nat) (hk0 : kd k0 = 5) (k1 : Nat) (hk1 : kd k1 = 5) (μ : TMem) (sz : Nat)  {Q : Int32 → Prop} (h : wp_X7_isSameTable k0 k1 μ Q) : TMi l yX7_isSameTable (.code yX7_isSameTable cX7_isSameTable 4 (Option.some Jvm.ClassFile.FieldType.boolean)) 1 [.ref (ad k0), .ref (ad k1)] D ad cI cM sz μ (fun r μ1 => μ1 = μ ∧ Q r) := by
  refine T_meti (by decide +kernel) (Nat.le_of_ble_eq_true rfl) ?_
  intro p e s m below meth c Z ls hx hb hml hown ht hN hK hw hret hl
  have hl : lv_has ls 4 [(0, .ref (ad k0)), (1, .ref (ad k1))] := hl
  generalize s.heap = H at hw ⊢
  generalize ([] : List Loc) = locs at hw ⊢
  change (¬ (μ k0 1) = (μ k1 1) → (Q (0 : Int32))) ∧ ((μ k0 1) = (μ k1 1) → (((μ k0 2) = (μ k1 2) → (∃ n2x, wpl_X7_isSameTable_26 k0 k1 μ Q n2x (0 : Int32))) ∧ (¬ (μ k0 2) = (μ k1 2) → (Q (0 : Int32))))) at h
  refine lv_aload_n hx hb dX7_isSameTable_0 rfl (lv_at hl 0 rfl) ?_
  refine gf_X7_9 hx hb ht hown hK hw (Or.inr hk0) dX7_isSameTable_1 ?_
  refine lv_aload_n hx hb dX7_isSameTable_4 rfl (lv_at hl 1 rfl) ?_
  refine gf_X7_9 hx hb ht hown hK hw (Or.inr hk1) dX7_isSameTable_5 ?_
  refine lv_icmp_ne (tgt := 22) hx hb dX7_isSameTable_8 (by decide) (fun c1 => ?_) (fun c1 => ?_)
  · have h := h.1 c1
    refine lv_iconst (v := (0 : Int32)) hx hb dX7_isSameTable_22 (by decide) ?_
    exact hret H locs ls 23 _ _ hw ⟨rfl, h⟩ rfl dX7_isSameTable_23
  have h := h.2 c1
  refine lv_aload_n hx hb dX7_isSameTable_11 rfl (lv_at hl 0 rfl) ?_
  refine gf_X7_19 hx hb ht hown hK hw (Or.inr hk0) dX7_isSameTable_12 ?_
  refine lv_aload_n hx hb dX7_isSameTable_15 rfl (lv_at hl 1 rfl) ?_
  refine gf_X7_19 hx hb ht hown hK hw (Or.inr hk1) dX7_isSameTable_16 ?_
  refine lv_icmp_eq (tgt := 24) hx hb dX7_isSameTable_19 (by decide) (fun c2 => ?_) (fun c2 => ?_)
  · have h := h.1 c2
    refine lv_iconst (v := (0 : Int32)) hx hb dX7_isSameTable_24 (by decide) ?_
    refine lv_istore_n (lv' := [(2, .int (0 : Int32)), (0, .ref (ad k0)), (1, .ref (ad k1))]) hx hb dX7_isSameTable_25 rfl hl (by decide) rfl (fun ls hl => ?_)
    obtain ⟨n18, h⟩ := h
    have L2 : ∀ (n : Nat) (v4 : Int32) (H : Heap) (locs : List Loc) (ls : Array Slot), TW D ad cI cM s μ H locs → lv_has ls 4 [(2, .int v4), (0, .ref (ad k0)), (1, .ref (ad k1))] → wpl_X7_isSameTable_26 k0 k1 μ Q n v4 → W p l e (RM 1) s m #[.ref (ad k0), .ref (ad k1)] below meth c H locs 0 0 Z (F0 m 26 ls []) := by
      intro n
      induction n with
      | zero => intro v4 H locs ls hw hl h; exact False.elim h
      | succ n ih2 =>
        intro v4 H locs ls hw hl h
        change ((μ k0 1) ≤ v4 → (Q (1 : Int32))) ∧ (¬ (μ k0 1) ≤ v4 → (∃ n5x, wpl_X7_isSameTable_36 k0 k1 μ v4 (wpl_X7_isSameTable_26 k0 k1 μ Q n (v4 + (1 : Int32))) Q n5x (0 : Int32))) at h
        refine lv_iload_n hx hb dX7_isSameTable_26 rfl (lv_at hl 0 rfl) ?_
        refine lv_aload_n hx hb dX7_isSameTable_27 rfl (lv_at hl 1 rfl) ?_
        refine gf_X7_9 hx hb ht hown hK hw (Or.inr hk0) dX7_isSameTable_28 ?_
        refine lv_icmp_ge (tgt := 70) hx hb dX7_isSameTable_31 (by decide) (fun c5 => ?_) (fun c5 => ?_)
        · have h := h.1 c5
          refine lv_iconst (v := (1 : Int32)) hx hb dX7_isSameTable_70 (by decide) ?_
          exact hret H locs ls 71 _ _ hw ⟨rfl, h⟩ rfl dX7_isSameTable_71
        have h := h.2 c5
        refine lv_iconst (v := (0 : Int32)) hx hb dX7_isSameTable_34 (by decide) ?_
        refine lv_istore_n (lv' := [(3, .int (0 : Int32)), (2, .int v4), (0, .ref (ad k0)), (1, .ref (ad k1))]) hx hb dX7_isSameTable_35 rfl hl (by decide) rfl (fun ls hl => ?_)
        obtain ⟨n17, h⟩ := h
        have L5 : ∀ (v8 : Int32) (K64 : Prop), (∀ (H : Heap) (locs : List Loc) (ls : Array Slot), TW D ad cI cM s μ H locs → lv_has ls 4 [(2, .int v8), (0, .ref (ad k0)), (1, .ref (ad k1))] → K64 → W p l e (RM 1) s m #[.ref (ad k0), .ref (ad k1)] below meth c H locs 0 0 Z (F0 m 64 ls [])) → ∀ (n : Nat) (v7 : Int32) (H : Heap) (locs : List Loc) (ls : Array Slot), TW D ad cI cM s μ H locs → lv_has ls 4 [(3, .int v7), (2, .int v8), (0, .ref (ad k0)), (1, .ref (ad k1))] → wpl_X7_isSameTable_36 k0 k1 μ v8 K64 Q n v7 → W p l e (RM 1) s m #[.ref (ad k0), .ref (ad k1)] below meth c H locs 0 0 Z (F0 m 36 ls []) := by
          intro v8 K64 hK64
          intro n
          induction n with
          | zero => intro v7 H locs ls hw hl h; exact False.elim h
          | succ n ih5 =>
            intro v7 H locs ls hw hl h
            change ((3 : Int32) ≤ v7 → (K64)) ∧ (¬ (3 : Int32) ≤ v7 → (wp_X7_at k0 μ v8 v7 (fun (r10 : Int32) => wp_X7_at k1 μ v8 v7 (fun (r13 : Int32) => (r10 = r13 → (wpl_X7_isSameTable_36 k0 k1 μ v8 K64 Q n (v7 + (1 : Int32)))) ∧ (¬ r10 = r13 → (Q (0 : Int32))))))) at h
            refine lv_iload_n hx hb dX7_isSameTable_36 rfl (lv_at hl 0 rfl) ?_
            refine lv_iconst (v := (3 : Int32)) hx hb dX7_isSameTable_37 (by decide) ?_
            refine lv_icmp_ge (tgt := 64) hx hb dX7_isSameTable_38 (by decide) (fun c9 => ?_) (fun c9 => ?_)
            · have h := h.1 c9
              exact hK64 H locs ls hw (lv_sub hl [1, 2, 3] rfl) h
            have h := h.2 c9
            refine lv_aload_n hx hb dX7_isSameTable_41 rfl (lv_at hl 2 rfl) ?_
            refine lv_iload_n hx hb dX7_isSameTable_42 rfl (lv_at hl 1 rfl) ?_
            refine lv_iload_n hx hb dX7_isSameTable_43 rfl (lv_at hl 0 rfl) ?_
            refine T_calli hw (va_runU (own := "Leastreader$Table") (As := [.int v8, .int v7]) (rest := []) ⟨hx, hb, hml, hown, ht⟩ (c_X7_at_5 k0 hk0 μ H.size v8 v7 h) (va_cwU (owner := "Leastreader$Table") 2 ht (G_U q_526 q_1604 q_1606 q_416 q_47 q_417) rfl rfl rfl rfl hd_0 ⟨Nat.le_of_ble_eq_true rfl, Nat.le_of_ble_eq_true rfl⟩) ⟨TB.blind, (T_recv hK hw (kd_of hk0 (by decide)) (ent_5 hk0) cl_5), TB.pre hK hN hw⟩ rfl rfl hl.1 rfl (lv_room (Nat.le_of_ble_eq_true rfl)) dX7_isSameTable_44 ⟨Nat.le_of_ble_eq_true rfl, Nat.le_of_ble_eq_true rfl⟩) (fun r10 μ11 H locs h hw => ?_)
            obtain ⟨e12, h⟩ := h
            rw [e12] at hw
            refine lv_aload_n hx hb dX7_isSameTable_47 rfl (lv_at hl 3 rfl) ?_
            refine lv_iload_n hx hb dX7_isSameTable_48 rfl (lv_at hl 1 rfl) ?_
            refine lv_iload_n hx hb dX7_isSameTable_49 rfl (lv_at hl 0 rfl) ?_
            refine T_calli hw (va_runU (own := "Leastreader$Table") (As := [.int v8, .int v7]) (rest := [.int r10]) ⟨hx, hb, hml, hown, ht⟩ (c_X7_at_5 k1 hk1 μ H.size v8 v7 h) (va_cwU (owner := "Leastreader$Table") 2 ht (G_U q_526 q_1604 q_1606 q_416 q_47 q_417) rfl rfl rfl rfl hd_0 ⟨Nat.le_of_ble_eq_true rfl, Nat.le_of_ble_eq_true rfl⟩) ⟨TB.blind, (T_recv hK hw (kd_of hk1 (by decide)) (ent_5 hk1) cl_5), TB.pre hK hN hw⟩ rfl rfl hl.1 rfl (lv_room (Nat.le_of_ble_eq_true rfl)) dX7_isSameTable_50 ⟨Nat.le_of_ble_eq_true rfl, Nat.le_of_ble_eq_true rfl⟩) (fun r13 μ14 H locs h hw => ?_)
            obtain ⟨e15, h⟩ := h
            rw [e15] at hw
            refine lv_icmp_eq (tgt := 58) hx hb dX7_isSameTable_53 (by decide) (fun c16 => ?_) (fun c16 => ?_)
            · have h := h.1 c16
              refine lv_iinc (v := (v7 + (1 : Int32))) (lv' := [(3, .int (v7 + (1 : Int32))), (2, .int v8), (0, .ref (ad k0)), (1, .ref (ad k1))]) hx hb dX7_isSameTable_58 hl (k := 0) rfl rfl (by decide) rfl (fun ls hl => ?_)
              refine lv_goto (tgt := 36) hx hb dX7_isSameTable_61 (by decide) ?_
              exact ih5 (v7 + (1 : Int32)) H locs ls hw (lv_sub hl [0, 1, 2, 3] rfl) h
            have h := h.2 c16
            refine lv_iconst (v := (0 : Int32)) hx hb dX7_isSameTable_56 (by decide) ?_
            exact hret H locs ls 57 _ _ hw ⟨rfl, h⟩ rfl dX7_isSameTable_57
        refine L5 v4 _ ?_ n17 (0 : Int32) H locs ls hw (lv_sub hl [0, 1, 2, 3] rfl) h
        intro H locs ls hw hl h
        refine lv_iinc (v := (v4 + (1 : Int32))) (lv' := [(2, .int (v4 + (1 : Int32))), (0, .ref (ad k0)), (1, .ref (ad k1))]) hx hb dX7_isSameTable_64 hl (k := 0) rfl rfl (by decide) rfl (fun ls hl => ?_)
        refine lv_goto (tgt := 26) hx hb dX7_isSameTable_67 (by decide) ?_
        exact ih2 (v4 + (1 : Int32)) H locs ls hw (lv_sub hl [0, 1, 2] rfl) h
    exact L2 n18 (0 : Int32) H locs ls hw (lv_sub hl [0, 1, 2] rfl) h
  have h := h.2 c2
  refine lv_iconst (v := (0 : Int32)) hx hb dX7_isSameTable_22 (by decide) ?_
  exact hret H locs ls 23 _ _ hw ⟨rfl, h⟩ rfl dX7_isSameTable_23
end
/-! part 28.m9 -/
section
def wp_X2_isSameAs (k0 : Nat) (k1 : Nat) (μ : TMem) (Q : Int32 → Prop) : Prop :=
  (¬ (μ k0 3) = (μ k1 3) → (Q (0 : Int32))) ∧ ((μ k0 3) = (μ k1 3) → (wp_X7_isSameTable k0 k1 μ (fun (r2 : Int32) => (r2 = 0 → (Q (0 : Int32))) ∧ (¬ r2 = 0 → (Q (1 : Int32))))))
set_option maxHeartbeats 4000000 in
set_option maxRecDepth 100000 in
theorem c_X2_isSameAs {l : Launch} {D : va_G} {ad : Nat → Nat} {cI cM : ClassId} (k0 : Nat) (hk0 : kd k0 = 2) (k1 : Nat) (hk1 : kd k1 = 2) (μ : TMem) (sz : Nat)  {Q : Int32 → Prop} (h : wp_X2_isSameAs k0 k1 μ Q) : TMi l yX2_isSameAs (.code yX2_isSameAs cX2_isSameAs 2 (Option.some Jvm.ClassFile.FieldType.boolean)) 2 [.ref (ad k0), .ref (ad k1)] D ad cI cM sz μ (fun r μ1 => μ1 = μ ∧ Q r) := by
  refine T_meti (by decide +kernel) (Nat.le_of_ble_eq_true rfl) ?_
  intro p e s m below meth c Z ls hx hb hml hown ht hN hK hw hret hl
  have hl : lv_has ls 2 [(0, .ref (ad k0)), (1, .ref (ad k1))] := hl
  generalize s.heap = H at hw ⊢
  generalize ([] : List Loc) = locs at hw ⊢
  change (¬ (μ k0 3) = (μ k1 3) → (Q (0 : Int32))) ∧ ((μ k0 3) = (μ k1 3) → (wp_X7_isSameTable k0 k1 μ (fun (r2 : Int32) => (r2 = 0 → (Q (0 : Int32))) ∧ (¬ r2 = 0 → (Q (1 : Int32)))))) at h
  refine lv_aload_n hx hb dX2_isSameAs_0 rfl (lv_at hl 0 rfl) ?_
  refine gf_X2_9 hx hb ht hown hK hw hk0 dX2_isSameAs_1 ?_
  refine lv_aload_n hx hb dX2_isSameAs_4 rfl (lv_at hl 1 rfl) ?_
  refine gf_X2_9 hx hb ht hown hK hw hk1 dX2_isSameAs_5 ?_
  refine lv_icmp_ne (tgt := 23) hx hb dX2_isSameAs_8 (by decide) (fun c1 => ?_) (fun c1 => ?_)
  · have h := h.1 c1
    refine lv_iconst (v := (0 : Int32)) hx hb dX2_isSameAs_23 (by decide) ?_
    exact hret H locs ls 24 _ _ hw ⟨rfl, h⟩ rfl dX2_isSameAs_24
  have h := h.2 c1
  refine lv_aload_n hx hb dX2_isSameAs_11 rfl (lv_at hl 0 rfl) ?_
  refine lv_aload_n hx hb dX2_isSameAs_12 rfl (lv_at hl 1 rfl) ?_
  refine T_calli hw (va_runU (own := "Leastreader$Machine") (As := [.ref (ad k1)]) (rest := []) ⟨hx, hb, hml, hown, ht⟩ (c_X7_isSameTable_2 k0 hk0 k1 hk1 μ H.size h) (va_cwU (owner := "Leastreader$Table") 1 ht (G_U q_703 q_704 q_705 q_524 q_47 q_525) rfl rfl rfl rfl hd_44 ⟨Nat.le_of_ble_eq_true rfl, Nat.le_of_ble_eq_true rfl⟩) ⟨TB.blind, (T_recv hK hw (kd_of hk0 (by decide)) (ent_2 hk0) cl_2), TB.pre hK hN hw⟩ rfl rfl hl.1 rfl (lv_room (Nat.le_of_ble_eq_true rfl)) dX2_isSameAs_13 ⟨Nat.le_of_ble_eq_true rfl, Nat.le_of_ble_eq_true rfl⟩) (fun r2 μ3 H locs h hw => ?_)
  obtain ⟨e4, h⟩ := h
  rw [e4] at hw
  refine lv_if_eq (tgt := 23) hx hb dX2_isSameAs_16 (by decide) (fun c5 => ?_) (fun c5 => ?_)
  · have h := h.1 c5
    refine lv_iconst (v := (0 : Int32)) hx hb dX2_isSameAs_23 (by decide) ?_
    exact hret H locs ls 24 _ _ hw ⟨rfl, h⟩ rfl dX2_isSameAs_24
  have h := h.2 c5
  refine lv_iconst (v := (1 : Int32)) hx hb dX2_isSameAs_19 (by decide) ?_
  refine lv_goto (tgt := 24) hx hb dX2_isSameAs_20 (by decide) ?_
  exact hret H locs ls 24 _ _ hw ⟨rfl, h⟩ rfl dX2_isSameAs_24
def wpl_X2_become_36 (k0 : Nat) (k1 : Nat) (v7 : Int32) (K59 : TMem → Prop) : Nat → Int32 → TMem → Prop
  | 0, _, _ => False
  | n + 1, v6, μ8 =>
    ((3 : Int32) ≤ v6 → (K59 μ8)) ∧ (¬ (3 : Int32) ≤ v6 → (wp_X7_at k1 μ8 v7 v6 (fun (r10 : Int32) => wp_X7_put k0 μ8 v7 v6 r10 (fun (μ13 : TMem) => wpl_X2_become_36 k0 k1 v7 K59 n (v6 + (1 : Int32)) μ13))))
def wpl_X2_become_26 (k0 : Nat) (k1 : Nat) (Q : TMem → Prop) : Nat → Int32 → TMem → Prop
  | 0, _, _ => False
  | n + 1, v2, μ3 =>
    ((μ3 k0 1) ≤ v2 → (Q μ3)) ∧ (¬ (μ3 k0 1) ≤ v2 → (∃ n4x, wpl_X2_become_36 k0 k1 v2 (fun (μ15 : TMem) => wpl_X2_become_26 k0 k1 Q n (v2 + (1 : Int32)) μ15) n4x (0 : Int32) μ3))
def wp_X2_become (k0 : Nat) (k1 : Nat) (μ : TMem) (Q : TMem → Prop) : Prop :=
  ∃ n0x, wpl_X2_become_26 k0 k1 Q n0x (0 : Int32) (tms (tms (tms μ k0 1 (μ k1 1)) k0 3 ((tms μ k0 1 (μ k1 1)) k1 3)) k0 2 ((tms (tms μ k0 1 (μ k1 1)) k0 3 ((tms μ k0 1 (μ k1 1)) k1 3)) k1 2))
set_option maxHeartbeats 4000000 in
set_option maxRecDepth 100000 in
theorem c_X2_become {l : Launch} {D : va_G} {ad : Nat → Nat} {cI cM : ClassId} (k0 : Nat) (hk0 : kd k0 = 2) (k1 : Nat) (hk1 : kd k1 = 2) (μ : TMem) (sz : Nat)  {Q : TMem → Prop} (h : wp_X2_become k0 k1 μ Q) : TMv l yX2_become (.code yX2_become cX2_become 4 (Option.none : Option Jvm.ClassFile.FieldType)) 1 [.ref (ad k0), .ref (ad k1)] D ad cI cM sz μ Q := by
  refine T_metv (by decide +kernel) (Nat.le_of_ble_eq_true rfl) ?_
  intro p e s m below meth c Z ls hx hb hml hown ht hN hK hw hret hl
  have hl : lv_has ls 4 [(0, .ref (ad k0)), (1, .ref (ad k1))] := hl
  generalize s.heap = H at hw ⊢
  generalize ([] : List Loc) = locs at hw ⊢
  change ∃ n0x, wpl_X2_become_26 k0 k1 Q n0x (0 : Int32) (tms (tms (tms μ k0 1 (μ k1 1)) k0 3 ((tms μ k0 1 (μ k1 1)) k1 3)) k0 2 ((tms (tms μ k0 1 (μ k1 1)) k0 3 ((tms μ k0 1 (μ k1 1)) k1 3)) k1 2)) at h
  refine lv_aload_n hx hb dX2_become_0 rfl (lv_at hl 0 rfl) ?_
  refine lv_aload_n hx hb dX2_become_1 rfl (lv_at hl 1 rfl) ?_
  refine gf_X2_15 hx hb ht hown hK hw hk1 dX2_become_2 ?_
  refine pgf_X2_15 hx hb ht hown hK hw hk0 dX2_become_5 (fun H locs hw => ?_)
  refine lv_aload_n hx hb dX2_become_8 rfl (lv_at hl 0 rfl) ?_
  refine lv_aload_n hx hb dX2_become_9 rfl (lv_at hl 1 rfl) ?_
  refine gf_X2_9 hx hb ht hown hK hw hk1 dX2_become_10 ?_
  refine pgf_X2_9 hx hb ht hown hK hw hk0 dX2_become_13 (fun H locs hw => ?_)
  refine lv_aload_n hx hb dX2_become_16 rfl (lv_at hl 0 rfl) ?_
  refine lv_aload_n hx hb dX2_become_17 rfl (lv_at hl 1 rfl) ?_
  refine gf_X2_18 hx hb ht hown hK hw hk1 dX2_become_18 ?_
  refine pgf_X2_18 hx hb ht hown hK hw hk0 dX2_become_21 (fun H locs hw => ?_)
  refine lv_iconst (v := (0 : Int32)) hx hb dX2_become_24 (by decide) ?_
  refine lv_istore_n (lv' := [(2, .int (0 : Int32)), (0, .ref (ad k0)), (1, .ref (ad k1))]) hx hb dX2_become_25 rfl hl (by decide) rfl (fun ls hl => ?_)
  obtain ⟨n16, h⟩ := h
  have L0 : ∀ (n : Nat) (v2 : Int32) (μ3 : TMem) (H : Heap) (locs : List Loc) (ls : Array Slot), TW D ad cI cM s μ3 H locs → lv_has ls 4 [(2, .int v2), (0, .ref (ad k0)), (1, .ref (ad k1))] → wpl_X2_become_26 k0 k1 Q n v2 μ3 → W p l e (RM 1) s m #[.ref (ad k0), .ref (ad k1)] below meth c H locs 0 0 Z (F0 m 26 ls []) := by
    intro n
    induction n with
    | zero => intro v2 μ3 H locs ls hw hl h; exact False.elim h
    | succ n ih0 =>
      intro v2 μ3 H locs ls hw hl h
      change ((μ3 k0 1) ≤ v2 → (Q μ3)) ∧ (¬ (μ3 k0 1) ≤ v2 → (∃ n4x, wpl_X2_become_36 k0 k1 v2 (fun (μ15 : TMem) => wpl_X2_become_26 k0 k1 Q n (v2 + (1 : Int32)) μ15) n4x (0 : Int32) μ3)) at h
      refine lv_iload_n hx hb dX2_become_26 rfl (lv_at hl 0 rfl) ?_
      refine lv_aload_n hx hb dX2_become_27 rfl (lv_at hl 1 rfl) ?_
      refine gf_X2_15 hx hb ht hown hK hw hk0 dX2_become_28 ?_
      refine lv_icmp_ge (tgt := 65) hx hb dX2_become_31 (by decide) (fun c4 => ?_) (fun c4 => ?_)
      · have h := h.1 c4
        exact hret H locs ls 65 _ hw h dX2_become_65
      have h := h.2 c4
      refine lv_iconst (v := (0 : Int32)) hx hb dX2_become_34 (by decide) ?_
      refine lv_istore_n (lv' := [(3, .int (0 : Int32)), (2, .int v2), (0, .ref (ad k0)), (1, .ref (ad k1))]) hx hb dX2_become_35 rfl hl (by decide) rfl (fun ls hl => ?_)
      obtain ⟨n14, h⟩ := h
      have L4 : ∀ (v7 : Int32) (K59 : TMem → Prop), (∀ (μ8 : TMem) (H : Heap) (locs : List Loc) (ls : Array Slot), TW D ad cI cM s μ8 H locs → lv_has ls 4 [(2, .int v7), (0, .ref (ad k0)), (1, .ref (ad k1))] → K59 μ8 → W p l e (RM 1) s m #[.ref (ad k0), .ref (ad k1)] below meth c H locs 0 0 Z (F0 m 59 ls [])) → ∀ (n : Nat) (v6 : Int32) (μ8 : TMem) (H : Heap) (locs : List Loc) (ls : Array Slot), TW D ad cI cM s μ8 H locs → lv_has ls 4 [(3, .int v6), (2, .int v7), (0, .ref (ad k0)), (1, .ref (ad k1))] → wpl_X2_become_36 k0 k1 v7 K59 n v6 μ8 → W p l e (RM 1) s m #[.ref (ad k0), .ref (ad k1)] below meth c H locs 0 0 Z (F0 m 36 ls []) := by
        intro v7 K59 hK59
        intro n
        induction n with
        | zero => intro v6 μ8 H locs ls hw hl h; exact False.elim h
        | succ n ih4 =>
          intro v6 μ8 H locs ls hw hl h
          change ((3 : Int32) ≤ v6 → (K59 μ8)) ∧ (¬ (3 : Int32) ≤ v6 → (wp_X7_at k1 μ8 v7 v6 (fun (r10 : Int32) => wp_X7_put k0 μ8 v7 v6 r10 (fun (μ13 : TMem) => wpl_X2_become_36 k0 k1 v7 K59 n (v6 + (1 : Int32)) μ13)))) at h
          refine lv_iload_n hx hb dX2_become_36 rfl (lv_at hl 0 rfl) ?_
          refine lv_iconst (v := (3 : Int32)) hx hb dX2_become_37 (by decide) ?_
          refine lv_icmp_ge (tgt := 59) hx hb dX2_become_38 (by decide) (fun c9 => ?_) (fun c9 => ?_)
          · have h := h.1 c9
            exact hK59 μ8 H locs ls hw (lv_sub hl [1, 2, 3] rfl) h
          have h := h.2 c9
          refine lv_aload_n hx hb dX2_become_41 rfl (lv_at hl 2 rfl) ?_
          refine lv_iload_n hx hb dX2_become_42 rfl (lv_at hl 1 rfl) ?_
          refine lv_iload_n hx hb dX2_become_43 rfl (lv_at hl 0 rfl) ?_
          refine lv_aload_n hx hb dX2_become_44 rfl (lv_at hl 3 rfl) ?_
          refine lv_iload_n hx hb dX2_become_45 rfl (lv_at hl 1 rfl) ?_
          refine lv_iload_n hx hb dX2_become_46 rfl (lv_at hl 0 rfl) ?_
          refine T_calli hw (va_runU (own := "Leastreader$Machine") (As := [.int v7, .int v6]) (rest := [.int v6, .int v7, .ref (ad k0)]) ⟨hx, hb, hml, hown, ht⟩ (c_X7_at_2 k1 hk1 μ8 H.size v7 v6 h) (va_cwU (owner := "Leastreader$Table") 2 ht (G_U q_412 q_413 q_415 q_416 q_47 q_417) rfl rfl rfl rfl hd_0 ⟨Nat.le_of_ble_eq_true rfl, Nat.le_of_ble_eq_true rfl⟩) ⟨TB.blind, (T_recv hK hw (kd_of hk1 (by decide)) (ent_2 hk1) cl_2), TB.pre hK hN hw⟩ rfl rfl hl.1 rfl (lv_room (Nat.le_of_ble_eq_true rfl)) dX2_become_47 ⟨Nat.le_of_ble_eq_true rfl, Nat.le_of_ble_eq_true rfl⟩) (fun r10 μ11 H locs h hw => ?_)
          obtain ⟨e12, h⟩ := h
          rw [e12] at hw
          refine T_callv hw (va_runU (own := "Leastreader$Machine") (As := [.int v7, .int v6, .int r10]) (rest := []) ⟨hx, hb, hml, hown, ht⟩ (c_X7_put_2 k0 hk0 μ8 H.size v7 v6 r10 h) (va_cwU (owner := "Leastreader$Table") 3 ht (G_U q_444 q_445 q_446 q_430 q_47 q_431) rfl rfl rfl rfl hd_1 ⟨Nat.le_of_ble_eq_true rfl, Nat.le_of_ble_eq_true rfl⟩) ⟨TB.blind, (T_recv hK hw (kd_of hk0 (by decide)) (ent_2 hk0) cl_2), TB.pre hK hN hw⟩ rfl rfl hl.1 rfl (lv_room (Nat.le_of_ble_eq_true rfl)) dX2_become_50 ⟨Nat.le_of_ble_eq_true rfl, Nat.le_of_ble_eq_true rfl⟩) (fun μ13 H locs h hw => ?_)
          refine lv_iinc (v := (v6 + (1 : Int32))) (lv' := [(3, .int (v6 + (1 : Int32))), (2, .int v7), (0, .ref (ad k0)), (1, .ref (ad k1))]) hx hb dX2_become_53 hl (k := 0) rfl rfl (by decide) rfl (fun ls hl => ?_)
          refine lv_goto (tgt := 36) hx hb dX2_become_56 (by decide) ?_
          exact ih4 (v6 + (1 : Int32)) μ13 H locs ls hw (lv_sub hl [0, 1, 2, 3] rfl) h
      refine L4 v2 _ ?_ n14 (0 : Int32) μ3 H locs ls hw (lv_sub hl [0, 1, 2, 3] rfl) h
      intro μ15 H locs ls hw hl h
      refine lv_iinc (v := (v2 + (1 : Int32))) (lv' := [(2, .int (v2 + (1 : Int32))), (0, .ref (ad k0)), (1, .ref (ad k1))]) hx hb dX2_become_59 hl (k := 0) rfl rfl (by decide) rfl (fun ls hl => ?_)
      refine lv_goto (tgt := 26) hx hb dX2_become_62 (by decide) ?_
      exact ih0 (v2 + (1 : Int32)) μ15 H locs ls hw (lv_sub hl [0, 1, 2] rfl) h
  exact L0 n16 (0 : Int32) (tms (tms (tms μ k0 1 (μ k1 1)) k0 3 ((tms μ k0 1 (μ k1 1)) k1 3)) k0 2 ((tms (tms μ k0 1 (μ k1 1)) k0 3 ((tms μ k0 1 (μ k1 1)) k1 3)) k1 2)) H locs ls hw (lv_sub hl [0, 1, 2] rfl) h
def wpl_X2_sources_5 (k0 : Nat) (μ : TMem) (v4 : Int32) (v5 : Int32) (Q : Int32 → Prop) : Nat → Int32 → Int32 → Prop
  | 0, _, _ => False
  | n + 1, v2, v3 =>
    ((μ k0 1) ≤ v2 → (Q v3)) ∧ (¬ (μ k0 1) ≤ v2 → (wp_X7_at k0 μ v2 v5 (fun (r7 : Int32) => wp_X9_isIn r7 v4 (fun (r10 : Int32) => (r10 = 0 → (wpl_X2_sources_5 k0 μ v4 v5 Q n (v2 + (1 : Int32)) v3)) ∧ (¬ r10 = 0 → (wpl_X2_sources_5 k0 μ v4 v5 Q n (v2 + (1 : Int32)) (v3 ||| ((1 : Int32) <<< (v2 &&& 31)))))))))
def wp_X2_sources (k0 : Nat) (μ : TMem) (a1 : Int32) (a2 : Int32) (Q : Int32 → Prop) : Prop :=
  ∃ n0x, wpl_X2_sources_5 k0 μ a1 a2 Q n0x (0 : Int32) (0 : Int32)
set_option maxHeartbeats 4000000 in
set_option maxRecDepth 100000 in
theorem c_X2_sources {l : Launch} {D : va_G} {ad : Nat → Nat} {cI cM : ClassId} (k0 : Nat) (hk0 : kd k0 = 2) (μ : TMem) (sz : Nat) (a1 : Int32) (a2 : Int32) {Q : Int32 → Prop} (h : wp_X2_sources k0 μ a1 a2 Q) : TMi l yX2_sources (.code yX2_sources cX2_sources 5 (Option.some Jvm.ClassFile.FieldType.int)) 1 [.ref (ad k0), .int a1, .int a2] D ad cI cM sz μ (fun r μ1 => μ1 = μ ∧ Q r) := by
  refine T_meti (by decide +kernel) (Nat.le_of_ble_eq_true rfl) ?_
  intro p e s m below meth c Z ls hx hb hml hown ht hN hK hw hret hl
  have hl : lv_has ls 5 [(0, .ref (ad k0)), (1, .int a1), (2, .int a2)] := hl
  generalize s.heap = H at hw ⊢
  generalize ([] : List Loc) = locs at hw ⊢
  change ∃ n0x, wpl_X2_sources_5 k0 μ a1 a2 Q n0x (0 : Int32) (0 : Int32) at h
  refine lv_iconst (v := (0 : Int32)) hx hb dX2_sources_0 (by decide) ?_
  refine lv_istore_n (lv' := [(3, .int (0 : Int32)), (0, .ref (ad k0)), (1, .int a1), (2, .int a2)]) hx hb dX2_sources_1 rfl hl (by decide) rfl (fun ls hl => ?_)
  refine lv_iconst (v := (0 : Int32)) hx hb dX2_sources_2 (by decide) ?_
  refine lv_istore (lv' := [(4, .int (0 : Int32)), (3, .int (0 : Int32)), (0, .ref (ad k0)), (1, .int a1), (2, .int a2)]) hx hb dX2_sources_3 hl (by decide) rfl (fun ls hl => ?_)
  obtain ⟨n12, h⟩ := h
  have L0 : ∀ (v4 : Int32) (v5 : Int32), ∀ (n : Nat) (v2 : Int32) (v3 : Int32) (H : Heap) (locs : List Loc) (ls : Array Slot), TW D ad cI cM s μ H locs → lv_has ls 5 [(4, .int v2), (3, .int v3), (0, .ref (ad k0)), (1, .int v4), (2, .int v5)] → wpl_X2_sources_5 k0 μ v4 v5 Q n v2 v3 → W p l e (RM 1) s m #[.ref (ad k0), .int a1, .int a2] below meth c H locs 0 0 Z (F0 m 5 ls []) := by
    intro v4 v5
    intro n
    induction n with
    | zero => intro v2 v3 H locs ls hw hl h; exact False.elim h
    | succ n ih0 =>
      intro v2 v3 H locs ls hw hl h
      change ((μ k0 1) ≤ v2 → (Q v3)) ∧ (¬ (μ k0 1) ≤ v2 → (wp_X7_at k0 μ v2 v5 (fun (r7 : Int32) => wp_X9_isIn r7 v4 (fun (r10 : Int32) => (r10 = 0 → (wpl_X2_sources_5 k0 μ v4 v5 Q n (v2 + (1 : Int32)) v3)) ∧ (¬ r10 = 0 → (wpl_X2_sources_5 k0 μ v4 v5 Q n (v2 + (1 : Int32)) (v3 ||| ((1 : Int32) <<< (v2 &&& 31))))))))) at h
      refine lv_iload hx hb dX2_sources_5 (lv_at hl 0 rfl) ?_
      refine lv_aload_n hx hb dX2_sources_7 rfl (lv_at hl 2 rfl) ?_
      refine gf_X2_15 hx hb ht hown hK hw hk0 dX2_sources_8 ?_
      refine lv_icmp_ge (tgt := 41) hx hb dX2_sources_11 (by decide) (fun c6 => ?_) (fun c6 => ?_)
      · have h := h.1 c6
        refine lv_iload_n hx hb dX2_sources_41 rfl (lv_at hl 1 rfl) ?_
        exact hret H locs ls 42 _ _ hw ⟨rfl, h⟩ rfl dX2_sources_42
      have h := h.2 c6
      refine lv_aload_n hx hb dX2_sources_14 rfl (lv_at hl 2 rfl) ?_
      refine lv_iload hx hb dX2_sources_15 (lv_at hl 0 rfl) ?_
      refine lv_iload_n hx hb dX2_sources_17 rfl (lv_at hl 4 rfl) ?_
      refine T_calli hw (va_runU (own := "Leastreader$Machine") (As := [.int v2, .int v5]) (rest := []) ⟨hx, hb, hml, hown, ht⟩ (c_X7_at_2 k0 hk0 μ H.size v2 v5 h) (va_cwU (owner := "Leastreader$Table") 2 ht (G_U q_412 q_413 q_415 q_416 q_47 q_417) rfl rfl rfl rfl hd_0 ⟨Nat.le_of_ble_eq_true rfl, Nat.le_of_ble_eq_true rfl⟩) ⟨TB.blind, (T_recv hK hw (kd_of hk0 (by decide)) (ent_2 hk0) cl_2), TB.pre hK hN hw⟩ rfl rfl hl.1 rfl (lv_room (Nat.le_of_ble_eq_true rfl)) dX2_sources_18 ⟨Nat.le_of_ble_eq_true rfl, Nat.le_of_ble_eq_true rfl⟩) (fun r7 μ8 H locs h hw => ?_)
      obtain ⟨e9, h⟩ := h
      rw [e9] at hw
      refine lv_iload_n hx hb dX2_sources_21 rfl (lv_at hl 3 rfl) ?_
      refine P_calli (va_runSN (own := "Leastreader$Machine") (As := [.int r7, .int v4]) (rest := []) ⟨hx, hb, hml, hown, ht⟩ (c_X9_isIn r7 v4 h) ⟨va_cnB 2 ht (G_ws q_411) rfl rfl rfl (nw_409 hN) (ht _ q_46) hd_5 ⟨Nat.le_of_ble_eq_true rfl, Nat.le_of_ble_eq_true rfl⟩, ht _ q_410, trivial⟩ ⟨PM_blind, PM_pre⟩ rfl rfl hl.1 rfl (lv_room (Nat.le_of_ble_eq_true rfl)) dX2_sources_22 ⟨Nat.le_of_ble_eq_true rfl, Nat.le_of_ble_eq_true rfl⟩) (fun r10 h => ?_)
      refine lv_if_eq (tgt := 35) hx hb dX2_sources_25 (by decide) (fun c11 => ?_) (fun c11 => ?_)
      · have h := h.1 c11
        refine lv_iinc (v := (v2 + (1 : Int32))) (lv' := [(4, .int (v2 + (1 : Int32))), (3, .int v3), (0, .ref (ad k0)), (1, .int v4), (2, .int v5)]) hx hb dX2_sources_35 hl (k := 0) rfl rfl (by decide) rfl (fun ls hl => ?_)
        refine lv_goto (tgt := 5) hx hb dX2_sources_38 (by decide) ?_
        exact ih0 (v2 + (1 : Int32)) v3 H locs ls hw (lv_sub hl [0, 1, 2, 3, 4] rfl) h
      have h := h.2 c11
      refine lv_iload_n hx hb dX2_sources_28 rfl (lv_at hl 1 rfl) ?_
      refine lv_iconst (v := (1 : Int32)) hx hb dX2_sources_29 (by decide) ?_
      refine lv_iload hx hb dX2_sources_30 (lv_at hl 0 rfl) ?_
      refine lv_ishl hx hb dX2_sources_32 ?_
      refine lv_ior hx hb dX2_sources_33 ?_
      refine lv_istore_n (lv' := [(3, .int (v3 ||| ((1 : Int32) <<< (v2 &&& 31)))), (4, .int v2), (0, .ref (ad k0)), (1, .int v4), (2, .int v5)]) hx hb dX2_sources_34 rfl hl (by decide) rfl (fun ls hl => ?_)
      refine lv_iinc (v := (v2 + (1 : Int32))) (lv' := [(4, .int (v2 + (1 : Int32))), (3, .int (v3 ||| ((1 : Int32) <<< (v2 &&& 31)))), (0, .ref (ad k0)), (1, .int v4), (2, .int v5)]) hx hb dX2_sources_35 hl (k := 1) rfl rfl (by decide) rfl (fun ls hl => ?_)
      refine lv_goto (tgt := 5) hx hb dX2_sources_38 (by decide) ?_
      exact ih0 (v2 + (1 : Int32)) (v3 ||| ((1 : Int32) <<< (v2 &&& 31))) H locs ls hw (lv_sub hl [0, 1, 2, 3, 4] rfl) h
  exact L0 a1 a2 n12 (0 : Int32) (0 : Int32) H locs ls hw (lv_sub hl [0, 1, 2, 3, 4] rfl) h
def wpl_X2_becomeRound_36 (k0 : Nat) (k1 : Nat) (v7 : Int32) (K59 : TMem → Prop) : Nat → Int32 → TMem → Prop
  | 0, _, _ => False
  | n + 1, v6, μ8 =>
    ((3 : Int32) ≤ v6 → (K59 μ8)) ∧ (¬ (3 : Int32) ≤ v6 → (wp_X2_sources k1 μ8 v7 v6 (fun (r10 : Int32) => wp_X7_put k0 μ8 v7 v6 r10 (fun (μ13 : TMem) => wpl_X2_becomeRound_36 k0 k1 v7 K59 n (v6 + (1 : Int32)) μ13))))
def wpl_X2_becomeRound_26 (k0 : Nat) (k1 : Nat) (Q : TMem → Prop) : Nat → Int32 → TMem → Prop
  | 0, _, _ => False
  | n + 1, v2, μ3 =>
    ((μ3 k0 1) ≤ v2 → (Q μ3)) ∧ (¬ (μ3 k0 1) ≤ v2 → (∃ n4x, wpl_X2_becomeRound_36 k0 k1 v2 (fun (μ15 : TMem) => wpl_X2_becomeRound_26 k0 k1 Q n (v2 + (1 : Int32)) μ15) n4x (0 : Int32) μ3))
def wp_X2_becomeRound (k0 : Nat) (k1 : Nat) (μ : TMem) (Q : TMem → Prop) : Prop :=
  ∃ n0x, wpl_X2_becomeRound_26 k0 k1 Q n0x (0 : Int32) (tms (tms (tms μ k0 1 (μ k1 1)) k0 3 ((tms μ k0 1 (μ k1 1)) k1 2)) k0 2 ((tms (tms μ k0 1 (μ k1 1)) k0 3 ((tms μ k0 1 (μ k1 1)) k1 2)) k1 3))
set_option maxHeartbeats 4000000 in
set_option maxRecDepth 100000 in
theorem c_X2_becomeRound {l : Launch} {D : va_G} {ad : Nat → Nat} {cI cM : ClassId} (k0 : Nat) (hk0 : kd k0 = 2) (k1 : Nat) (hk1 : kd k1 = 2) (μ : TMem) (sz : Nat)  {Q : TMem → Prop} (h : wp_X2_becomeRound k0 k1 μ Q) : TMv l yX2_becomeRound (.code yX2_becomeRound cX2_becomeRound 4 (Option.none : Option Jvm.ClassFile.FieldType)) 2 [.ref (ad k0), .ref (ad k1)] D ad cI cM sz μ Q := by
  refine T_metv (by decide +kernel) (Nat.le_of_ble_eq_true rfl) ?_
  intro p e s m below meth c Z ls hx hb hml hown ht hN hK hw hret hl
  have hl : lv_has ls 4 [(0, .ref (ad k0)), (1, .ref (ad k1))] := hl
  generalize s.heap = H at hw ⊢
  generalize ([] : List Loc) = locs at hw ⊢
  change ∃ n0x, wpl_X2_becomeRound_26 k0 k1 Q n0x (0 : Int32) (tms (tms (tms μ k0 1 (μ k1 1)) k0 3 ((tms μ k0 1 (μ k1 1)) k1 2)) k0 2 ((tms (tms μ k0 1 (μ k1 1)) k0 3 ((tms μ k0 1 (μ k1 1)) k1 2)) k1 3)) at h
  refine lv_aload_n hx hb dX2_becomeRound_0 rfl (lv_at hl 0 rfl) ?_
  refine lv_aload_n hx hb dX2_becomeRound_1 rfl (lv_at hl 1 rfl) ?_
  refine gf_X2_15 hx hb ht hown hK hw hk1 dX2_becomeRound_2 ?_
  refine pgf_X2_15 hx hb ht hown hK hw hk0 dX2_becomeRound_5 (fun H locs hw => ?_)
  refine lv_aload_n hx hb dX2_becomeRound_8 rfl (lv_at hl 0 rfl) ?_
  refine lv_aload_n hx hb dX2_becomeRound_9 rfl (lv_at hl 1 rfl) ?_
  refine gf_X2_18 hx hb ht hown hK hw hk1 dX2_becomeRound_10 ?_
  refine pgf_X2_9 hx hb ht hown hK hw hk0 dX2_becomeRound_13 (fun H locs hw => ?_)
  refine lv_aload_n hx hb dX2_becomeRound_16 rfl (lv_at hl 0 rfl) ?_
  refine lv_aload_n hx hb dX2_becomeRound_17 rfl (lv_at hl 1 rfl) ?_
  refine gf_X2_9 hx hb ht hown hK hw hk1 dX2_becomeRound_18 ?_
  refine pgf_X2_18 hx hb ht hown hK hw hk0 dX2_becomeRound_21 (fun H locs hw => ?_)
  refine lv_iconst (v := (0 : Int32)) hx hb dX2_becomeRound_24 (by decide) ?_
  refine lv_istore_n (lv' := [(2, .int (0 : Int32)), (0, .ref (ad k0)), (1, .ref (ad k1))]) hx hb dX2_becomeRound_25 rfl hl (by decide) rfl (fun ls hl => ?_)
  obtain ⟨n16, h⟩ := h
  have L0 : ∀ (n : Nat) (v2 : Int32) (μ3 : TMem) (H : Heap) (locs : List Loc) (ls : Array Slot), TW D ad cI cM s μ3 H locs → lv_has ls 4 [(2, .int v2), (0, .ref (ad k0)), (1, .ref (ad k1))] → wpl_X2_becomeRound_26 k0 k1 Q n v2 μ3 → W p l e (RM 2) s m #[.ref (ad k0), .ref (ad k1)] below meth c H locs 0 0 Z (F0 m 26 ls []) := by
    intro n
    induction n with
    | zero => intro v2 μ3 H locs ls hw hl h; exact False.elim h
    | succ n ih0 =>
      intro v2 μ3 H locs ls hw hl h
      change ((μ3 k0 1) ≤ v2 → (Q μ3)) ∧ (¬ (μ3 k0 1) ≤ v2 → (∃ n4x, wpl_X2_becomeRound_36 k0 k1 v2 (fun (μ15 : TMem) => wpl_X2_becomeRound_26 k0 k1 Q n (v2 + (1 : Int32)) μ15) n4x (0 : Int32) μ3)) at h
      refine lv_iload_n hx hb dX2_becomeRound_26 rfl (lv_at hl 0 rfl) ?_
      refine lv_aload_n hx hb dX2_becomeRound_27 rfl (lv_at hl 1 rfl) ?_
      refine gf_X2_15 hx hb ht hown hK hw hk0 dX2_becomeRound_28 ?_
      refine lv_icmp_ge (tgt := 65) hx hb dX2_becomeRound_31 (by decide) (fun c4 => ?_) (fun c4 => ?_)
      · have h := h.1 c4
        exact hret H locs ls 65 _ hw h dX2_becomeRound_65
      have h := h.2 c4
      refine lv_iconst (v := (0 : Int32)) hx hb dX2_becomeRound_34 (by decide) ?_
      refine lv_istore_n (lv' := [(3, .int (0 : Int32)), (2, .int v2), (0, .ref (ad k0)), (1, .ref (ad k1))]) hx hb dX2_becomeRound_35 rfl hl (by decide) rfl (fun ls hl => ?_)
      obtain ⟨n14, h⟩ := h
      have L4 : ∀ (v7 : Int32) (K59 : TMem → Prop), (∀ (μ8 : TMem) (H : Heap) (locs : List Loc) (ls : Array Slot), TW D ad cI cM s μ8 H locs → lv_has ls 4 [(2, .int v7), (0, .ref (ad k0)), (1, .ref (ad k1))] → K59 μ8 → W p l e (RM 2) s m #[.ref (ad k0), .ref (ad k1)] below meth c H locs 0 0 Z (F0 m 59 ls [])) → ∀ (n : Nat) (v6 : Int32) (μ8 : TMem) (H : Heap) (locs : List Loc) (ls : Array Slot), TW D ad cI cM s μ8 H locs → lv_has ls 4 [(3, .int v6), (2, .int v7), (0, .ref (ad k0)), (1, .ref (ad k1))] → wpl_X2_becomeRound_36 k0 k1 v7 K59 n v6 μ8 → W p l e (RM 2) s m #[.ref (ad k0), .ref (ad k1)] below meth c H locs 0 0 Z (F0 m 36 ls []) := by
        intro v7 K59 hK59
        intro n
        induction n with
        | zero => intro v6 μ8 H locs ls hw hl h; exact False.elim h
        | succ n ih4 =>
          intro v6 μ8 H locs ls hw hl h
          change ((3 : Int32) ≤ v6 → (K59 μ8)) ∧ (¬ (3 : Int32) ≤ v6 → (wp_X2_sources k1 μ8 v7 v6 (fun (r10 : Int32) => wp_X7_put k0 μ8 v7 v6 r10 (fun (μ13 : TMem) => wpl_X2_becomeRound_36 k0 k1 v7 K59 n (v6 + (1 : Int32)) μ13)))) at h
          refine lv_iload_n hx hb dX2_becomeRound_36 rfl (lv_at hl 0 rfl) ?_
          refine lv_iconst (v := (3 : Int32)) hx hb dX2_becomeRound_37 (by decide) ?_
          refine lv_icmp_ge (tgt := 59) hx hb dX2_becomeRound_38 (by decide) (fun c9 => ?_) (fun c9 => ?_)
          · have h := h.1 c9
            exact hK59 μ8 H locs ls hw (lv_sub hl [1, 2, 3] rfl) h
          have h := h.2 c9
          refine lv_aload_n hx hb dX2_becomeRound_41 rfl (lv_at hl 2 rfl) ?_
          refine lv_iload_n hx hb dX2_becomeRound_42 rfl (lv_at hl 1 rfl) ?_
          refine lv_iload_n hx hb dX2_becomeRound_43 rfl (lv_at hl 0 rfl) ?_
          refine lv_aload_n hx hb dX2_becomeRound_44 rfl (lv_at hl 3 rfl) ?_
          refine lv_iload_n hx hb dX2_becomeRound_45 rfl (lv_at hl 1 rfl) ?_
          refine lv_iload_n hx hb dX2_becomeRound_46 rfl (lv_at hl 0 rfl) ?_
          refine T_calli hw (va_runV (own := "Leastreader$Machine") (As := [.int v7, .int v6]) (rest := [.int v6, .int v7, .ref (ad k0)]) ⟨hx, hb, hml, hown, ht⟩ (c_X2_sources k1 hk1 μ8 H.size v7 v6 h) (cwV 2 ht (G_V q_440 q_442 q_4 q_48 q_443) rfl rfl rfl ⟨rfl, hd_45⟩ ⟨Nat.le_of_ble_eq_true rfl, Nat.le_of_ble_eq_true rfl⟩) ⟨TB.blind, (T_recv hK hw (kd_of hk1 (by decide)) (ent_2 hk1) cl_2), TB.pre hK hN hw⟩ rfl rfl hl.1 rfl (lv_room (Nat.le_of_ble_eq_true rfl)) dX2_becomeRound_47 ⟨Nat.le_of_ble_eq_true rfl, Nat.le_of_ble_eq_true rfl⟩) (fun r10 μ11 H locs h hw => ?_)
          obtain ⟨e12, h⟩ := h
          rw [e12] at hw
          refine T_callv hw (va_runU (own := "Leastreader$Machine") (As := [.int v7, .int v6, .int r10]) (rest := []) ⟨hx, hb, hml, hown, ht⟩ (c_X7_put_2 k0 hk0 μ8 H.size v7 v6 r10 h) (va_cwU (owner := "Leastreader$Table") 3 ht (G_U q_444 q_445 q_446 q_430 q_47 q_431) rfl rfl rfl rfl hd_1 ⟨Nat.le_of_ble_eq_true rfl, Nat.le_of_ble_eq_true rfl⟩) ⟨TB.blind, (T_recv hK hw (kd_of hk0 (by decide)) (ent_2 hk0) cl_2), TB.pre hK hN hw⟩ rfl rfl hl.1 rfl (lv_room (Nat.le_of_ble_eq_true rfl)) dX2_becomeRound_50 ⟨Nat.le_of_ble_eq_true rfl, Nat.le_of_ble_eq_true rfl⟩) (fun μ13 H locs h hw => ?_)
          refine lv_iinc (v := (v6 + (1 : Int32))) (lv' := [(3, .int (v6 + (1 : Int32))), (2, .int v7), (0, .ref (ad k0)), (1, .ref (ad k1))]) hx hb dX2_becomeRound_53 hl (k := 0) rfl rfl (by decide) rfl (fun ls hl => ?_)
          refine lv_goto (tgt := 36) hx hb dX2_becomeRound_56 (by decide) ?_
          exact ih4 (v6 + (1 : Int32)) μ13 H locs ls hw (lv_sub hl [0, 1, 2, 3] rfl) h
      refine L4 v2 _ ?_ n14 (0 : Int32) μ3 H locs ls hw (lv_sub hl [0, 1, 2, 3] rfl) h
      intro μ15 H locs ls hw hl h
      refine lv_iinc (v := (v2 + (1 : Int32))) (lv' := [(2, .int (v2 + (1 : Int32))), (0, .ref (ad k0)), (1, .ref (ad k1))]) hx hb dX2_becomeRound_59 hl (k := 0) rfl rfl (by decide) rfl (fun ls hl => ?_)
      refine lv_goto (tgt := 26) hx hb dX2_becomeRound_62 (by decide) ?_
      exact ih0 (v2 + (1 : Int32)) μ15 H locs ls hw (lv_sub hl [0, 1, 2] rfl) h
  exact L0 n16 (0 : Int32) (tms (tms (tms μ k0 1 (μ k1 1)) k0 3 ((tms μ k0 1 (μ k1 1)) k1 2)) k0 2 ((tms (tms μ k0 1 (μ k1 1)) k0 3 ((tms μ k0 1 (μ k1 1)) k1 2)) k1 3)) H locs ls hw (lv_sub hl [0, 1, 2] rfl) h
def wp_X2_closeUp (a0 : Int32) (a1 : Int32) (Q : Int32 → Prop) : Prop :=
  Q ((a0 &&& (((1 : Int32) <<< (a1 &&& 31)) - (1 : Int32))) ||| ((a0 >>> ((a1 + (1 : Int32)) &&& 31)) <<< (a1 &&& 31)))
set_option maxHeartbeats 4000000 in
set_option maxRecDepth 100000 in
theorem c_X2_closeUp {l : Launch} (a0 : Int32) (a1 : Int32) {Q : Int32 → Prop} (h : wp_X2_closeUp a0 a1 Q) : PMi l yX2_closeUp (.code yX2_closeUp cX2_closeUp 4 (Option.some Jvm.ClassFile.FieldType.int)) 0 [.int a0, .int a1] Q := by
  refine P_meti (by decide +kernel) (Nat.le_of_ble_eq_true rfl) ?_
  intro p e s m below meth c Z ls hx hb hml hown ht hret hl
  have hl : lv_has ls 4 [(0, .int a0), (1, .int a1)] := hl
  change Q ((a0 &&& (((1 : Int32) <<< (a1 &&& 31)) - (1 : Int32))) ||| ((a0 >>> ((a1 + (1 : Int32)) &&& 31)) <<< (a1 &&& 31))) at h
  refine lv_iload_n hx hb dX2_closeUp_0 rfl (lv_at hl 0 rfl) ?_
  refine lv_iconst (v := (1 : Int32)) hx hb dX2_closeUp_1 (by decide) ?_
  refine lv_iload_n hx hb dX2_closeUp_2 rfl (lv_at hl 1 rfl) ?_
  refine lv_ishl hx hb dX2_closeUp_3 ?_
  refine lv_iconst (v := (1 : Int32)) hx hb dX2_closeUp_4 (by decide) ?_
  refine lv_isub hx hb dX2_closeUp_5 ?_
  refine lv_iand hx hb dX2_closeUp_6 ?_
  refine lv_istore_n (lv' := [(2, .int (a0 &&& (((1 : Int32) <<< (a1 &&& 31)) - (1 : Int32)))), (0, .int a0), (1, .int a1)]) hx hb dX2_closeUp_7 rfl hl (by decide) rfl (fun ls hl => ?_)
  refine lv_iload_n hx hb dX2_closeUp_8 rfl (lv_at hl 1 rfl) ?_
  refine lv_iload_n hx hb dX2_closeUp_9 rfl (lv_at hl 2 rfl) ?_
  refine lv_iconst (v := (1 : Int32)) hx hb dX2_closeUp_10 (by decide) ?_
  refine lv_iadd hx hb dX2_closeUp_11 ?_
  refine lv_ishr hx hb dX2_closeUp_12 ?_
  refine lv_istore_n (lv' := [(3, .int (a0 >>> ((a1 + (1 : Int32)) &&& 31))), (2, .int (a0 &&& (((1 : Int32) <<< (a1 &&& 31)) - (1 : Int32)))), (0, .int a0), (1, .int a1)]) hx hb dX2_closeUp_13 rfl hl (by decide) rfl (fun ls hl => ?_)
  refine lv_iload_n hx hb dX2_closeUp_14 rfl (lv_at hl 1 rfl) ?_
  refine lv_iload_n hx hb dX2_closeUp_15 rfl (lv_at hl 0 rfl) ?_
  refine lv_iload_n hx hb dX2_closeUp_16 rfl (lv_at hl 3 rfl) ?_
  refine lv_ishl hx hb dX2_closeUp_17 ?_
  refine lv_ior hx hb dX2_closeUp_18 ?_
  exact hret ls 19 _ h rfl dX2_closeUp_19
def wpl_X2_removeState_28 (k0 : Nat) (v10 : Int32) (v11 : Int32) (v12 : Int32) (K58 : TMem → Prop) : Nat → Int32 → TMem → Prop
  | 0, _, _ => False
  | n + 1, v9, μ13 =>
    ((3 : Int32) ≤ v9 → (K58 μ13)) ∧ (¬ (3 : Int32) ≤ v9 → (wp_X7_at k0 μ13 v10 v9 (fun (r15 : Int32) => wp_X2_closeUp r15 v12 (fun (r18 : Int32) => wp_X7_put k0 μ13 v11 v9 r18 (fun (μ19 : TMem) => wpl_X2_removeState_28 k0 v10 v11 v12 K58 n (v9 + (1 : Int32)) μ19)))))
def wpl_X2_removeState_2 (k0 : Nat) (v3 : Int32) (K64 : TMem → Prop) : Nat → Int32 → TMem → Prop
  | 0, _, _ => False
  | n + 1, v2, μ4 =>
    (((μ4 k0 1) - (1 : Int32)) ≤ v2 → (K64 μ4)) ∧ (¬ ((μ4 k0 1) - (1 : Int32)) ≤ v2 → (∀ J6 : Int32 → Prop, (∀ (j7 : Int32), (∃ n7x, wpl_X2_removeState_28 k0 j7 v2 v3 (fun (μ21 : TMem) => wpl_X2_removeState_2 k0 v3 K64 n (v2 + (1 : Int32)) μ21) n7x (0 : Int32) μ4) → J6 j7) → ((v3 ≤ v2 → (J6 (v2 + (1 : Int32)))) ∧ (¬ v3 ≤ v2 → (J6 v2)))))
def wp_X2_removeState (k0 : Nat) (μ : TMem) (a1 : Int32) (Q : TMem → Prop) : Prop :=
  ∃ n0x, wpl_X2_removeState_2 k0 a1 (fun (μ24 : TMem) => wp_X2_closeUp (μ24 k0 3) a1 (fun (r25 : Int32) => wp_X2_closeUp ((tms μ24 k0 3 r25) k0 2) a1 (fun (r26 : Int32) => Q (tms (tms (tms μ24 k0 3 r25) k0 2 r26) k0 1 (((tms (tms μ24 k0 3 r25) k0 2 r26) k0 1) - (1 : Int32)))))) n0x (0 : Int32) μ
set_option maxHeartbeats 4000000 in
set_option maxRecDepth 100000 in
theorem c_X2_removeState {l : Launch} {D : va_G} {ad : Nat → Nat} {cI cM : ClassId} (k0 : Nat) (hk0 : kd k0 = 2) (μ : TMem) (sz : Nat) (a1 : Int32) {Q : TMem → Prop} (h : wp_X2_removeState k0 μ a1 Q) : TMv l yX2_removeState (.code yX2_removeState cX2_removeState 5 (Option.none : Option Jvm.ClassFile.FieldType)) 1 [.ref (ad k0), .int a1] D ad cI cM sz μ Q := by
  refine T_metv (by decide +kernel) (Nat.le_of_ble_eq_true rfl) ?_
  intro p e s m below meth c Z ls hx hb hml hown ht hN hK hw hret hl
  have hl : lv_has ls 5 [(0, .ref (ad k0)), (1, .int a1)] := hl
  generalize s.heap = H at hw ⊢
  generalize ([] : List Loc) = locs at hw ⊢
  change ∃ n0x, wpl_X2_removeState_2 k0 a1 (fun (μ24 : TMem) => wp_X2_closeUp (μ24 k0 3) a1 (fun (r25 : Int32) => wp_X2_closeUp ((tms μ24 k0 3 r25) k0 2) a1 (fun (r26 : Int32) => Q (tms (tms (tms μ24 k0 3 r25) k0 2 r26) k0 1 (((tms (tms μ24 k0 3 r25) k0 2 r26) k0 1) - (1 : Int32)))))) n0x (0 : Int32) μ at h
  refine lv_iconst (v := (0 : Int32)) hx hb dX2_removeState_0 (by decide) ?_
  refine lv_istore_n (lv' := [(2, .int (0 : Int32)), (0, .ref (ad k0)), (1, .int a1)]) hx hb dX2_removeState_1 rfl hl (by decide) rfl (fun ls hl => ?_)
  obtain ⟨n23, h⟩ := h
  have L0 : ∀ (v3 : Int32) (K64 : TMem → Prop), (∀ (μ4 : TMem) (H : Heap) (locs : List Loc) (ls : Array Slot), TW D ad cI cM s μ4 H locs → lv_has ls 5 [(0, .ref (ad k0)), (1, .int v3)] → K64 μ4 → W p l e (RM 1) s m #[.ref (ad k0), .int a1] below meth c H locs 0 0 Z (F0 m 64 ls [])) → ∀ (n : Nat) (v2 : Int32) (μ4 : TMem) (H : Heap) (locs : List Loc) (ls : Array Slot), TW D ad cI cM s μ4 H locs → lv_has ls 5 [(2, .int v2), (0, .ref (ad k0)), (1, .int v3)] → wpl_X2_removeState_2 k0 v3 K64 n v2 μ4 → W p l e (RM 1) s m #[.ref (ad k0), .int a1] below meth c H locs 0 0 Z (F0 m 2 ls []) := by
    intro v3 K64 hK64
    intro n
    induction n with
    | zero => intro v2 μ4 H locs ls hw hl h; exact False.elim h
    | succ n ih0 =>
      intro v2 μ4 H locs ls hw hl h
      change (((μ4 k0 1) - (1 : Int32)) ≤ v2 → (K64 μ4)) ∧ (¬ ((μ4 k0 1) - (1 : Int32)) ≤ v2 → (∀ J6 : Int32 → Prop, (∀ (j7 : Int32), (∃ n7x, wpl_X2_removeState_28 k0 j7 v2 v3 (fun (μ21 : TMem) => wpl_X2_removeState_2 k0 v3 K64 n (v2 + (1 : Int32)) μ21) n7x (0 : Int32) μ4) → J6 j7) → ((v3 ≤ v2 → (J6 (v2 + (1 : Int32)))) ∧ (¬ v3 ≤ v2 → (J6 v2))))) at h
      refine lv_iload_n hx hb dX2_removeState_2 rfl (lv_at hl 0 rfl) ?_
      refine lv_aload_n hx hb dX2_removeState_3 rfl (lv_at hl 1 rfl) ?_
      refine gf_X2_15 hx hb ht hown hK hw hk0 dX2_removeState_4 ?_
      refine lv_iconst (v := (1 : Int32)) hx hb dX2_removeState_7 (by decide) ?_
      refine lv_isub hx hb dX2_removeState_8 ?_
      refine lv_icmp_ge (tgt := 64) hx hb dX2_removeState_9 (by decide) (fun c5 => ?_) (fun c5 => ?_)
      · have h := h.1 c5
        exact hK64 μ4 H locs ls hw (lv_sub hl [1, 2] rfl) h
      have h := h.2 c5
      refine lv_iload_n hx hb dX2_removeState_12 rfl (lv_at hl 0 rfl) ?_
      refine lv_iload_n hx hb dX2_removeState_13 rfl (lv_at hl 2 rfl) ?_
      have h := h (fun j7 => ∀ (H : Heap) (locs : List Loc) (ls : Array Slot), TW D ad cI cM s μ4 H locs → lv_has ls 5 [(2, .int v2), (0, .ref (ad k0)), (1, .int v3)] → W p l e (RM 1) s m #[.ref (ad k0), .int a1] below meth c H locs 0 0 Z (F0 m 24 ls [.int j7])) (fun j7 h H locs ls hw hl => by
        refine lv_istore_n (lv' := [(3, .int j7), (2, .int v2), (0, .ref (ad k0)), (1, .int v3)]) hx hb dX2_removeState_24 rfl hl (by decide) rfl (fun ls hl => ?_)
        refine lv_iconst (v := (0 : Int32)) hx hb dX2_removeState_25 (by decide) ?_
        refine lv_istore (lv' := [(4, .int (0 : Int32)), (3, .int j7), (2, .int v2), (0, .ref (ad k0)), (1, .int v3)]) hx hb dX2_removeState_26 hl (by decide) rfl (fun ls hl => ?_)
        obtain ⟨n20, h⟩ := h
        have L7 : ∀ (v10 : Int32) (v11 : Int32) (v12 : Int32) (K58 : TMem → Prop), (∀ (μ13 : TMem) (H : Heap) (locs : List Loc) (ls : Array Slot), TW D ad cI cM s μ13 H locs → lv_has ls 5 [(2, .int v11), (0, .ref (ad k0)), (1, .int v12)] → K58 μ13 → W p l e (RM 1) s m #[.ref (ad k0), .int a1] below meth c H locs 0 0 Z (F0 m 58 ls [])) → ∀ (n : Nat) (v9 : Int32) (μ13 : TMem) (H : Heap) (locs : List Loc) (ls : Array Slot), TW D ad cI cM s μ13 H locs → lv_has ls 5 [(4, .int v9), (3, .int v10), (2, .int v11), (0, .ref (ad k0)), (1, .int v12)] → wpl_X2_removeState_28 k0 v10 v11 v12 K58 n v9 μ13 → W p l e (RM 1) s m #[.ref (ad k0), .int a1] below meth c H locs 0 0 Z (F0 m 28 ls []) := by
          intro v10 v11 v12 K58 hK58
          intro n
          induction n with
          | zero => intro v9 μ13 H locs ls hw hl h; exact False.elim h
          | succ n ih7 =>
            intro v9 μ13 H locs ls hw hl h
            change ((3 : Int32) ≤ v9 → (K58 μ13)) ∧ (¬ (3 : Int32) ≤ v9 → (wp_X7_at k0 μ13 v10 v9 (fun (r15 : Int32) => wp_X2_closeUp r15 v12 (fun (r18 : Int32) => wp_X7_put k0 μ13 v11 v9 r18 (fun (μ19 : TMem) => wpl_X2_removeState_28 k0 v10 v11 v12 K58 n (v9 + (1 : Int32)) μ19))))) at h
            refine lv_iload hx hb dX2_removeState_28 (lv_at hl 0 rfl) ?_
            refine lv_iconst (v := (3 : Int32)) hx hb dX2_removeState_30 (by decide) ?_
            refine lv_icmp_ge (tgt := 58) hx hb dX2_removeState_31 (by decide) (fun c14 => ?_) (fun c14 => ?_)
            · have h := h.1 c14
              exact hK58 μ13 H locs ls hw (lv_sub hl [2, 3, 4] rfl) h
            have h := h.2 c14
            refine lv_aload_n hx hb dX2_removeState_34 rfl (lv_at hl 3 rfl) ?_
            refine lv_iload_n hx hb dX2_removeState_35 rfl (lv_at hl 2 rfl) ?_
            refine lv_iload hx hb dX2_removeState_36 (lv_at hl 0 rfl) ?_
            refine lv_aload_n hx hb dX2_removeState_38 rfl (lv_at hl 3 rfl) ?_
            refine lv_iload_n hx hb dX2_removeState_39 rfl (lv_at hl 1 rfl) ?_
            refine lv_iload hx hb dX2_removeState_40 (lv_at hl 0 rfl) ?_
            refine T_calli hw (va_runU (own := "Leastreader$Machine") (As := [.int v10, .int v9]) (rest := [.int v9, .int v11, .ref (ad k0)]) ⟨hx, hb, hml, hown, ht⟩ (c_X7_at_2 k0 hk0 μ13 H.size v10 v9 h) (va_cwU (owner := "Leastreader$Table") 2 ht (G_U q_412 q_413 q_415 q_416 q_47 q_417) rfl rfl rfl rfl hd_0 ⟨Nat.le_of_ble_eq_true rfl, Nat.le_of_ble_eq_true rfl⟩) ⟨TB.blind, (T_recv hK hw (kd_of hk0 (by decide)) (ent_2 hk0) cl_2), TB.pre hK hN hw⟩ rfl rfl hl.1 rfl (lv_room (Nat.le_of_ble_eq_true rfl)) dX2_removeState_42 ⟨Nat.le_of_ble_eq_true rfl, Nat.le_of_ble_eq_true rfl⟩) (fun r15 μ16 H locs h hw => ?_)
            obtain ⟨e17, h⟩ := h
            rw [e17] at hw
            refine lv_iload_n hx hb dX2_removeState_45 rfl (lv_at hl 4 rfl) ?_
            refine P_calli (va_runS (own := "Leastreader$Machine") (As := [.int r15, .int v12]) (rest := [.int v9, .int v11, .ref (ad k0)]) ⟨hx, hb, hml, hown, ht⟩ (c_X2_closeUp r15 v12 h) (va_cwS 2 ht (G_S q_759 q_760 q_48 q_761) rfl rfl rfl hd_46 ⟨Nat.le_of_ble_eq_true rfl, Nat.le_of_ble_eq_true rfl⟩) ⟨PM_blind, PM_pre⟩ rfl rfl hl.1 rfl (lv_room (Nat.le_of_ble_eq_true rfl)) dX2_removeState_46 ⟨Nat.le_of_ble_eq_true rfl, Nat.le_of_ble_eq_true rfl⟩) (fun r18 h => ?_)
            refine T_callv hw (va_runU (own := "Leastreader$Machine") (As := [.int v11, .int v9, .int r18]) (rest := []) ⟨hx, hb, hml, hown, ht⟩ (c_X7_put_2 k0 hk0 μ13 H.size v11 v9 r18 h) (va_cwU (owner := "Leastreader$Table") 3 ht (G_U q_444 q_445 q_446 q_430 q_47 q_431) rfl rfl rfl rfl hd_1 ⟨Nat.le_of_ble_eq_true rfl, Nat.le_of_ble_eq_true rfl⟩) ⟨TB.blind, (T_recv hK hw (kd_of hk0 (by decide)) (ent_2 hk0) cl_2), TB.pre hK hN hw⟩ rfl rfl hl.1 rfl (lv_room (Nat.le_of_ble_eq_true rfl)) dX2_removeState_49 ⟨Nat.le_of_ble_eq_true rfl, Nat.le_of_ble_eq_true rfl⟩) (fun μ19 H locs h hw => ?_)
            refine lv_iinc (v := (v9 + (1 : Int32))) (lv' := [(4, .int (v9 + (1 : Int32))), (3, .int v10), (2, .int v11), (0, .ref (ad k0)), (1, .int v12)]) hx hb dX2_removeState_52 hl (k := 0) rfl rfl (by decide) rfl (fun ls hl => ?_)
            refine lv_goto (tgt := 28) hx hb dX2_removeState_55 (by decide) ?_
            exact ih7 (v9 + (1 : Int32)) μ19 H locs ls hw (lv_sub hl [0, 1, 2, 3, 4] rfl) h
        refine L7 j7 v2 v3 _ ?_ n20 (0 : Int32) μ4 H locs ls hw (lv_sub hl [0, 1, 2, 3, 4] rfl) h
        intro μ21 H locs ls hw hl h
        refine lv_iinc (v := (v2 + (1 : Int32))) (lv' := [(2, .int (v2 + (1 : Int32))), (0, .ref (ad k0)), (1, .int v3)]) hx hb dX2_removeState_58 hl (k := 0) rfl rfl (by decide) rfl (fun ls hl => ?_)
        refine lv_goto (tgt := 2) hx hb dX2_removeState_61 (by decide) ?_
        exact ih0 (v2 + (1 : Int32)) μ21 H locs ls hw (lv_sub hl [0, 1, 2] rfl) h)
      refine lv_icmp_ge (tgt := 21) hx hb dX2_removeState_14 (by decide) (fun c22 => ?_) (fun c22 => ?_)
      · have h := h.1 c22
        refine lv_iload_n hx hb dX2_removeState_21 rfl (lv_at hl 0 rfl) ?_
        refine lv_iconst (v := (1 : Int32)) hx hb dX2_removeState_22 (by decide) ?_
        refine lv_iadd hx hb dX2_removeState_23 ?_
        exact h H locs ls hw (lv_sub hl [0, 1, 2] rfl)
      have h := h.2 c22
      refine lv_iload_n hx hb dX2_removeState_17 rfl (lv_at hl 0 rfl) ?_
      refine lv_goto (tgt := 24) hx hb dX2_removeState_18 (by decide) ?_
      exact h H locs ls hw (lv_sub hl [0, 1, 2] rfl)
  refine L0 a1 _ ?_ n23 (0 : Int32) μ H locs ls hw (lv_sub hl [0, 1, 2] rfl) h
  intro μ24 H locs ls hw hl h
  refine lv_aload_n hx hb dX2_removeState_64 rfl (lv_at hl 0 rfl) ?_
  refine lv_aload_n hx hb dX2_removeState_65 rfl (lv_at hl 0 rfl) ?_
  refine gf_X2_9 hx hb ht hown hK hw hk0 dX2_removeState_66 ?_
  refine lv_iload_n hx hb dX2_removeState_69 rfl (lv_at hl 1 rfl) ?_
  refine P_calli (va_runS (own := "Leastreader$Machine") (As := [.int (μ24 k0 3), .int a1]) (rest := [.ref (ad k0)]) ⟨hx, hb, hml, hown, ht⟩ (c_X2_closeUp (μ24 k0 3) a1 h) (va_cwS 2 ht (G_S q_759 q_760 q_48 q_761) rfl rfl rfl hd_46 ⟨Nat.le_of_ble_eq_true rfl, Nat.le_of_ble_eq_true rfl⟩) ⟨PM_blind, PM_pre⟩ rfl rfl hl.1 rfl (lv_room (Nat.le_of_ble_eq_true rfl)) dX2_removeState_70 ⟨Nat.le_of_ble_eq_true rfl, Nat.le_of_ble_eq_true rfl⟩) (fun r25 h => ?_)
  refine pgf_X2_9 hx hb ht hown hK hw hk0 dX2_removeState_73 (fun H locs hw => ?_)
  refine lv_aload_n hx hb dX2_removeState_76 rfl (lv_at hl 0 rfl) ?_
  refine lv_aload_n hx hb dX2_removeState_77 rfl (lv_at hl 0 rfl) ?_
  refine gf_X2_18 hx hb ht hown hK hw hk0 dX2_removeState_78 ?_
  refine lv_iload_n hx hb dX2_removeState_81 rfl (lv_at hl 1 rfl) ?_
  refine P_calli (va_runS (own := "Leastreader$Machine") (As := [.int ((tms μ24 k0 3 r25) k0 2), .int a1]) (rest := [.ref (ad k0)]) ⟨hx, hb, hml, hown, ht⟩ (c_X2_closeUp ((tms μ24 k0 3 r25) k0 2) a1 h) (va_cwS 2 ht (G_S q_759 q_760 q_48 q_761) rfl rfl rfl hd_46 ⟨Nat.le_of_ble_eq_true rfl, Nat.le_of_ble_eq_true rfl⟩) ⟨PM_blind, PM_pre⟩ rfl rfl hl.1 rfl (lv_room (Nat.le_of_ble_eq_true rfl)) dX2_removeState_82 ⟨Nat.le_of_ble_eq_true rfl, Nat.le_of_ble_eq_true rfl⟩) (fun r26 h => ?_)
  refine pgf_X2_18 hx hb ht hown hK hw hk0 dX2_removeState_85 (fun H locs hw => ?_)
  refine lv_aload_n hx hb dX2_removeState_88 rfl (lv_at hl 0 rfl) ?_
  refine lv_dup hx hb dX2_removeState_89 rfl ?_
  refine gf_X2_15 hx hb ht hown hK hw hk0 dX2_removeState_90 ?_
  refine lv_iconst (v := (1 : Int32)) hx hb dX2_removeState_93 (by decide) ?_
  refine lv_isub hx hb dX2_removeState_94 ?_
  refine pgf_X2_15 hx hb ht hown hK hw hk0 dX2_removeState_95 (fun H locs hw => ?_)
  exact hret H locs ls 98 _ hw h dX2_removeState_98
def wpl_X2_countOneByOne_10 (k0 : Nat) (μ : TMem) (v5 : Int32) (v6 : Int32) (Q : Int32 → Prop) : Nat → Int32 → Int32 → Prop
  | 0, _, _ => False
  | n + 1, v3, v4 =>
    (v5 ≤ v3 → (Q v4)) ∧ (¬ v5 ≤ v3 → (wp_X2_isTaking k0 μ v6 v3 (fun (r8 : Int32) => (r8 = 0 → (wpl_X2_countOneByOne_10 k0 μ v5 v6 Q n (v3 + (1 : Int32)) v4)) ∧ (¬ r8 = 0 → (wpl_X2_countOneByOne_10 k0 μ v5 v6 Q n (v3 + (1 : Int32)) (v4 + (1 : Int32)))))))
def wp_X2_countOneByOne (k0 : Nat) (μ : TMem) (a1 : Int32) (Q : Int32 → Prop) : Prop :=
  wp_X9_countCodes a1 (fun (r1 : Int32) => ∃ n1x, wpl_X2_countOneByOne_10 k0 μ r1 a1 Q n1x (0 : Int32) (0 : Int32))
set_option maxHeartbeats 4000000 in
set_option maxRecDepth 100000 in
theorem c_X2_countOneByOne {l : Launch} {D : va_G} {ad : Nat → Nat} {cI cM : ClassId} (k0 : Nat) (hk0 : kd k0 = 2) (μ : TMem) (sz : Nat) (a1 : Int32) {Q : Int32 → Prop} (h : wp_X2_countOneByOne k0 μ a1 Q) : TMi l yX2_countOneByOne (.code yX2_countOneByOne cX2_countOneByOne 5 (Option.some Jvm.ClassFile.FieldType.int)) 4 [.ref (ad k0), .int a1] D ad cI cM sz μ (fun r μ1 => μ1 = μ ∧ Q r) := by
  refine T_meti (by decide +kernel) (Nat.le_of_ble_eq_true rfl) ?_
  intro p e s m below meth c Z ls hx hb hml hown ht hN hK hw hret hl
  have hl : lv_has ls 5 [(0, .ref (ad k0)), (1, .int a1)] := hl
  generalize s.heap = H at hw ⊢
  generalize ([] : List Loc) = locs at hw ⊢
  change wp_X9_countCodes a1 (fun (r1 : Int32) => ∃ n1x, wpl_X2_countOneByOne_10 k0 μ r1 a1 Q n1x (0 : Int32) (0 : Int32)) at h
  refine lv_iload_n hx hb dX2_countOneByOne_0 rfl (lv_at hl 1 rfl) ?_
  refine P_calli (va_runSN (own := "Leastreader$Machine") (As := [.int a1]) (rest := []) ⟨hx, hb, hml, hown, ht⟩ (c_X9_countCodes a1 h) ⟨va_cnB 1 ht (G_ws q_534) rfl rfl rfl (nw_1184 hN) (ht _ q_46) hd_30 ⟨Nat.le_of_ble_eq_true rfl, Nat.le_of_ble_eq_true rfl⟩, ht _ q_533, trivial⟩ ⟨PM_blind, PM_pre⟩ rfl rfl hl.1 rfl (lv_room (Nat.le_of_ble_eq_true rfl)) dX2_countOneByOne_1 ⟨Nat.le_of_ble_eq_true rfl, Nat.le_of_ble_eq_true rfl⟩) (fun r1 h => ?_)
  refine lv_istore_n (lv' := [(2, .int r1), (0, .ref (ad k0)), (1, .int a1)]) hx hb dX2_countOneByOne_4 rfl hl (by decide) rfl (fun ls hl => ?_)
  refine lv_iconst (v := (0 : Int32)) hx hb dX2_countOneByOne_5 (by decide) ?_
  refine lv_istore_n (lv' := [(3, .int (0 : Int32)), (2, .int r1), (0, .ref (ad k0)), (1, .int a1)]) hx hb dX2_countOneByOne_6 rfl hl (by decide) rfl (fun ls hl => ?_)
  refine lv_iconst (v := (0 : Int32)) hx hb dX2_countOneByOne_7 (by decide) ?_
  refine lv_istore (lv' := [(4, .int (0 : Int32)), (3, .int (0 : Int32)), (2, .int r1), (0, .ref (ad k0)), (1, .int a1)]) hx hb dX2_countOneByOne_8 hl (by decide) rfl (fun ls hl => ?_)
  obtain ⟨n12, h⟩ := h
  have L1 : ∀ (v5 : Int32) (v6 : Int32), ∀ (n : Nat) (v3 : Int32) (v4 : Int32) (H : Heap) (locs : List Loc) (ls : Array Slot), TW D ad cI cM s μ H locs → lv_has ls 5 [(4, .int v3), (3, .int v4), (2, .int v5), (0, .ref (ad k0)), (1, .int v6)] → wpl_X2_countOneByOne_10 k0 μ v5 v6 Q n v3 v4 → W p l e (RM 4) s m #[.ref (ad k0), .int a1] below meth c H locs 0 0 Z (F0 m 10 ls []) := by
    intro v5 v6
    intro n
    induction n with
    | zero => intro v3 v4 H locs ls hw hl h; exact False.elim h
    | succ n ih1 =>
      intro v3 v4 H locs ls hw hl h
      change (v5 ≤ v3 → (Q v4)) ∧ (¬ v5 ≤ v3 → (wp_X2_isTaking k0 μ v6 v3 (fun (r8 : Int32) => (r8 = 0 → (wpl_X2_countOneByOne_10 k0 μ v5 v6 Q n (v3 + (1 : Int32)) v4)) ∧ (¬ r8 = 0 → (wpl_X2_countOneByOne_10 k0 μ v5 v6 Q n (v3 + (1 : Int32)) (v4 + (1 : Int32))))))) at h
      refine lv_iload hx hb dX2_countOneByOne_10 (lv_at hl 0 rfl) ?_
      refine lv_iload_n hx hb dX2_countOneByOne_12 rfl (lv_at hl 2 rfl) ?_
      refine lv_icmp_ge (tgt := 35) hx hb dX2_countOneByOne_13 (by decide) (fun c7 => ?_) (fun c7 => ?_)
      · have h := h.1 c7
        refine lv_iload_n hx hb dX2_countOneByOne_35 rfl (lv_at hl 1 rfl) ?_
        exact hret H locs ls 36 _ _ hw ⟨rfl, h⟩ rfl dX2_countOneByOne_36
      have h := h.2 c7
      refine lv_aload_n hx hb dX2_countOneByOne_16 rfl (lv_at hl 3 rfl) ?_
      refine lv_iload_n hx hb dX2_countOneByOne_17 rfl (lv_at hl 4 rfl) ?_
      refine lv_iload hx hb dX2_countOneByOne_18 (lv_at hl 0 rfl) ?_
      refine T_calli hw (va_runV (own := "Leastreader$Machine") (As := [.int v6, .int v3]) (rest := []) ⟨hx, hb, hml, hown, ht⟩ (c_X2_isTaking k0 hk0 μ H.size v6 v3 h) (cwV 2 ht (G_V q_1185 q_542 q_543 q_48 q_544) rfl rfl rfl ⟨rfl, hd_32⟩ ⟨Nat.le_of_ble_eq_true rfl, Nat.le_of_ble_eq_true rfl⟩) ⟨TB.blind, (T_recv hK hw (kd_of hk0 (by decide)) (ent_2 hk0) cl_2), TB.pre hK hN hw⟩ rfl rfl hl.1 rfl (lv_room (Nat.le_of_ble_eq_true rfl)) dX2_countOneByOne_20 ⟨Nat.le_of_ble_eq_true rfl, Nat.le_of_ble_eq_true rfl⟩) (fun r8 μ9 H locs h hw => ?_)
      obtain ⟨e10, h⟩ := h
      rw [e10] at hw
      refine lv_if_eq (tgt := 29) hx hb dX2_countOneByOne_23 (by decide) (fun c11 => ?_) (fun c11 => ?_)
      · have h := h.1 c11
        refine lv_iinc (v := (v3 + (1 : Int32))) (lv' := [(4, .int (v3 + (1 : Int32))), (3, .int v4), (2, .int v5), (0, .ref (ad k0)), (1, .int v6)]) hx hb dX2_countOneByOne_29 hl (k := 0) rfl rfl (by decide) rfl (fun ls hl => ?_)
        refine lv_goto (tgt := 10) hx hb dX2_countOneByOne_32 (by decide) ?_
        exact ih1 (v3 + (1 : Int32)) v4 H locs ls hw (lv_sub hl [0, 1, 2, 3, 4] rfl) h
      have h := h.2 c11
      refine lv_iinc (v := (v4 + (1 : Int32))) (lv' := [(3, .int (v4 + (1 : Int32))), (4, .int v3), (2, .int v5), (0, .ref (ad k0)), (1, .int v6)]) hx hb dX2_countOneByOne_26 hl (k := 1) rfl rfl (by decide) rfl (fun ls hl => ?_)
      refine lv_iinc (v := (v3 + (1 : Int32))) (lv' := [(4, .int (v3 + (1 : Int32))), (3, .int (v4 + (1 : Int32))), (2, .int v5), (0, .ref (ad k0)), (1, .int v6)]) hx hb dX2_countOneByOne_29 hl (k := 1) rfl rfl (by decide) rfl (fun ls hl => ?_)
      refine lv_goto (tgt := 10) hx hb dX2_countOneByOne_32 (by decide) ?_
      exact ih1 (v3 + (1 : Int32)) (v4 + (1 : Int32)) H locs ls hw (lv_sub hl [0, 1, 2, 3, 4] rfl) h
  exact L1 r1 a1 n12 (0 : Int32) (0 : Int32) H locs ls hw (lv_sub hl [0, 1, 2, 3, 4] rfl) h
end
/-! part 29.m10 -/
section
def wp_X3_makeByTurning (k1 : Nat) (k2 : Nat) (μ : TMem) (Q : Int32 → TMem → Prop) : Prop :=
  wp_X2_becomeRound 31 k1 μ (fun (μ1 : TMem) => wp_X3_makeOneWay 31 33 μ1 (fun (r3 : Int32) (μ2 : TMem) => (¬ r3 = 0 → (wp_X2_becomePlain 29 33 μ2 (fun (μ5 : TMem) => wp_X2_becomeRound 31 29 μ5 (fun (μ6 : TMem) => wp_X3_makeOneWay 31 k2 μ6 (fun (r8 : Int32) (μ7 : TMem) => isB r8 ∧ Q r8 μ7))))) ∧ (r3 = 0 → (Q (0 : Int32) μ2))))
set_option maxHeartbeats 4000000 in
set_option maxRecDepth 100000 in
theorem c_X3_makeByTurning {l : Launch} {D : va_G} {ad : Nat → Nat} {cI cM : ClassId} (k1 : Nat) (hk1 : kd k1 = 2) (k2 : Nat) (hk2 : kd k2 = 5) (μ : TMem) (sz : Nat)  {Q : Int32 → TMem → Prop} (h : wp_X3_makeByTurning k1 k2 μ Q) : TMi l yX3_makeByTurning (.code yX3_makeByTurning cX3_makeByTurning 3 (Option.some Jvm.ClassFile.FieldType.boolean)) 3 [.ref (ad 15), .ref (ad k1), .ref (ad k2)] D ad cI cM sz μ Q := by
  refine T_meti (by decide +kernel) (Nat.le_of_ble_eq_true rfl) ?_
  intro p e s m below meth c Z ls hx hb hml hown ht hN hK hw hret hl
  have hl : lv_has ls 3 [(0, .ref (ad 15)), (1, .ref (ad k1)), (2, .ref (ad k2))] := hl
  generalize s.heap = H at hw ⊢
  generalize ([] : List Loc) = locs at hw ⊢
  change wp_X2_becomeRound 31 k1 μ (fun (μ1 : TMem) => wp_X3_makeOneWay 31 33 μ1 (fun (r3 : Int32) (μ2 : TMem) => (¬ r3 = 0 → (wp_X2_becomePlain 29 33 μ2 (fun (μ5 : TMem) => wp_X2_becomeRound 31 29 μ5 (fun (μ6 : TMem) => wp_X3_makeOneWay 31 k2 μ6 (fun (r8 : Int32) (μ7 : TMem) => isB r8 ∧ Q r8 μ7))))) ∧ (r3 = 0 → (Q (0 : Int32) μ2)))) at h
  refine lv_aload_n hx hb dX3_makeByTurning_0 rfl (lv_at hl 0 rfl) ?_
  refine gf_X3_40 hx hb ht hown hK hw rfl dX3_makeByTurning_1 ?_
  refine W.eq (g2 := F0 m 4 ls [.ref (ad 31)]) rfl ?_
  refine lv_aload_n hx hb dX3_makeByTurning_4 rfl (lv_at hl 1 rfl) ?_
  refine T_callv hw (va_runV (own := "Leastreader$Maker") (As := [.ref (ad k1)]) (rest := []) ⟨hx, hb, hml, hown, ht⟩ (c_X2_becomeRound 31 rfl k1 hk1 μ H.size h) (cwV 1 ht (G_V q_436 q_437 q_438 q_48 q_439) rfl rfl rfl ⟨rfl, hd_47⟩ ⟨Nat.le_of_ble_eq_true rfl, Nat.le_of_ble_eq_true rfl⟩) ⟨TB.blind, (T_recv hK hw (kd_of rfl (by decide)) (ent_2 rfl) cl_2), TB.pre hK hN hw⟩ rfl rfl hl.1 rfl (lv_room (Nat.le_of_ble_eq_true rfl)) dX3_makeByTurning_5 ⟨Nat.le_of_ble_eq_true rfl, Nat.le_of_ble_eq_true rfl⟩) (fun μ1 H locs h hw => ?_)
  refine lv_aload_n hx hb dX3_makeByTurning_8 rfl (lv_at hl 0 rfl) ?_
  refine lv_aload_n hx hb dX3_makeByTurning_9 rfl (lv_at hl 0 rfl) ?_
  refine gf_X3_40 hx hb ht hown hK hw rfl dX3_makeByTurning_10 ?_
  refine W.eq (g2 := F0 m 13 ls [.ref (ad 31), .ref (ad 15)]) rfl ?_
  refine lv_aload_n hx hb dX3_makeByTurning_13 rfl (lv_at hl 0 rfl) ?_
  refine gf_X3_46 hx hb ht hown hK hw rfl dX3_makeByTurning_14 ?_
  refine W.eq (g2 := F0 m 17 ls [.ref (ad 33), .ref (ad 31), .ref (ad 15)]) rfl ?_
  refine T_calli hw (va_runV (own := "Leastreader$Maker") (As := [.ref (ad 31), .ref (ad 33)]) (rest := []) ⟨hx, hb, hml, hown, ht⟩ (c_X3_makeOneWay 31 rfl 33 rfl μ1 H.size h) (cwV 2 ht (G_V q_390 q_391 q_392 q_50 q_393) rfl rfl rfl ⟨rfl, hd_15⟩ ⟨Nat.le_of_ble_eq_true rfl, Nat.le_of_ble_eq_true rfl⟩) ⟨TB.blind, (T_recv hK hw (kd_of rfl (by decide)) (ent_3 rfl) cl_3), TB.pre hK hN hw⟩ rfl rfl hl.1 rfl (lv_room (Nat.le_of_ble_eq_true rfl)) dX3_makeByTurning_17 ⟨Nat.le_of_ble_eq_true rfl, Nat.le_of_ble_eq_true rfl⟩) (fun r3 μ2 H locs h hw => ?_)
  refine lv_if_ne (tgt := 25) hx hb dX3_makeByTurning_20 (by decide) (fun c4 => ?_) (fun c4 => ?_)
  · have h := h.1 c4
    refine lv_aload_n hx hb dX3_makeByTurning_25 rfl (lv_at hl 0 rfl) ?_
    refine gf_X3_36 hx hb ht hown hK hw rfl dX3_makeByTurning_26 ?_
    refine W.eq (g2 := F0 m 29 ls [.ref (ad 29)]) rfl ?_
    refine lv_aload_n hx hb dX3_makeByTurning_29 rfl (lv_at hl 0 rfl) ?_
    refine gf_X3_46 hx hb ht hown hK hw rfl dX3_makeByTurning_30 ?_
    refine W.eq (g2 := F0 m 33 ls [.ref (ad 33), .ref (ad 29)]) rfl ?_
    refine T_callv hw (va_runV (own := "Leastreader$Maker") (As := [.ref (ad 33)]) (rest := []) ⟨hx, hb, hml, hown, ht⟩ (c_X2_becomePlain 29 rfl 33 rfl μ2 H.size h) (cwV 1 ht (G_V q_447 q_448 q_449 q_48 q_450) rfl rfl rfl ⟨rfl, hd_2⟩ ⟨Nat.le_of_ble_eq_true rfl, Nat.le_of_ble_eq_true rfl⟩) ⟨TB.blind, (T_recv hK hw (kd_of rfl (by decide)) (ent_2 rfl) cl_2), TB.pre hK hN hw⟩ rfl rfl hl.1 rfl (lv_room (Nat.le_of_ble_eq_true rfl)) dX3_makeByTurning_33 ⟨Nat.le_of_ble_eq_true rfl, Nat.le_of_ble_eq_true rfl⟩) (fun μ5 H locs h hw => ?_)
    refine lv_aload_n hx hb dX3_makeByTurning_36 rfl (lv_at hl 0 rfl) ?_
    refine gf_X3_40 hx hb ht hown hK hw rfl dX3_makeByTurning_37 ?_
    refine W.eq (g2 := F0 m 40 ls [.ref (ad 31)]) rfl ?_
    refine lv_aload_n hx hb dX3_makeByTurning_40 rfl (lv_at hl 0 rfl) ?_
    refine gf_X3_36 hx hb ht hown hK hw rfl dX3_makeByTurning_41 ?_
    refine W.eq (g2 := F0 m 44 ls [.ref (ad 29), .ref (ad 31)]) rfl ?_
    refine T_callv hw (va_runV (own := "Leastreader$Maker") (As := [.ref (ad 29)]) (rest := []) ⟨hx, hb, hml, hown, ht⟩ (c_X2_becomeRound 31 rfl 29 rfl μ5 H.size h) (cwV 1 ht (G_V q_436 q_437 q_438 q_48 q_439) rfl rfl rfl ⟨rfl, hd_47⟩ ⟨Nat.le_of_ble_eq_true rfl, Nat.le_of_ble_eq_true rfl⟩) ⟨TB.blind, (T_recv hK hw (kd_of rfl (by decide)) (ent_2 rfl) cl_2), TB.pre hK hN hw⟩ rfl rfl hl.1 rfl (lv_room (Nat.le_of_ble_eq_true rfl)) dX3_makeByTurning_44 ⟨Nat.le_of_ble_eq_true rfl, Nat.le_of_ble_eq_true rfl⟩) (fun μ6 H locs h hw => ?_)
    refine lv_aload_n hx hb dX3_makeByTurning_47 rfl (lv_at hl 0 rfl) ?_
    refine lv_aload_n hx hb dX3_makeByTurning_48 rfl (lv_at hl 0 rfl) ?_
    refine gf_X3_40 hx hb ht hown hK hw rfl dX3_makeByTurning_49 ?_
    refine W.eq (g2 := F0 m 52 ls [.ref (ad 31), .ref (ad 15)]) rfl ?_
    refine lv_aload_n hx hb dX3_makeByTurning_52 rfl (lv_at hl 2 rfl) ?_
    refine T_calli hw (va_runV (own := "Leastreader$Maker") (As := [.ref (ad 31), .ref (ad k2)]) (rest := []) ⟨hx, hb, hml, hown, ht⟩ (c_X3_makeOneWay 31 rfl k2 hk2 μ6 H.size h) (cwV 2 ht (G_V q_390 q_391 q_392 q_50 q_393) rfl rfl rfl ⟨rfl, hd_15⟩ ⟨Nat.le_of_ble_eq_true rfl, Nat.le_of_ble_eq_true rfl⟩) ⟨TB.blind, (T_recv hK hw (kd_of rfl (by decide)) (ent_3 rfl) cl_3), TB.pre hK hN hw⟩ rfl rfl hl.1 rfl (lv_room (Nat.le_of_ble_eq_true rfl)) dX3_makeByTurning_53 ⟨Nat.le_of_ble_eq_true rfl, Nat.le_of_ble_eq_true rfl⟩) (fun r8 μ7 H locs h hw => ?_)
    obtain ⟨z9, h⟩ := h
    exact hret H locs ls 56 _ _ hw h (isB_n z9) dX3_makeByTurning_56
  have h := h.2 c4
  refine lv_iconst (v := (0 : Int32)) hx hb dX3_makeByTurning_23 (by decide) ?_
  exact hret H locs ls 24 _ _ hw h rfl dX3_makeByTurning_24
def wp_X3_makeBy (k2 : Nat) (k3 : Nat) (μ : TMem) (a1 : Int32) (Q : Int32 → TMem → Prop) : Prop :=
  (¬ a1 = (3 : Int32) → ((¬ a1 = (2 : Int32) → (wp_X3_makeOneWay k2 33 μ (fun (r4 : Int32) (μ3 : TMem) => (¬ r4 = 0 → (∀ J6 : TMem → Prop, (∀ (μ7 : TMem), (wp_X3_makeGroups 33 k3 μ7 (fun (μ8 : TMem) => Q (1 : Int32) μ8)) → J6 μ7) → ((¬ a1 = (1 : Int32) → (wp_X1_findByParting 33 μ3 (fun (μ10 : TMem) => J6 μ10))) ∧ (a1 = (1 : Int32) → (wp_X1_findByPairs 33 μ3 (fun (μ11 : TMem) => J6 μ11)))))) ∧ (r4 = 0 → (Q (0 : Int32) μ3))))) ∧ (a1 = (2 : Int32) → (wp_X3_makeByTurning k2 k3 μ (fun (r13 : Int32) (μ12 : TMem) => isB r13 ∧ Q r13 μ12))))) ∧ (a1 = (3 : Int32) → (wp_X3_makeOneWay k2 k3 μ (fun (r16 : Int32) (μ15 : TMem) => isB r16 ∧ Q r16 μ15)))
set_option maxHeartbeats 4000000 in
set_option maxRecDepth 100000 in
theorem c_X3_makeBy {l : Launch} {D : va_G} {ad : Nat → Nat} {cI cM : ClassId} (k2 : Nat) (hk2 : kd k2 = 2) (k3 : Nat) (hk3 : kd k3 = 5) (μ : TMem) (sz : Nat) (a1 : Int32) {Q : Int32 → TMem → Prop} (h : wp_X3_makeBy k2 k3 μ a1 Q) : TMi l yX3_makeBy (.code yX3_makeBy cX3_makeBy 4 (Option.some Jvm.ClassFile.FieldType.boolean)) 4 [.ref (ad 15), .int a1, .ref (ad k2), .ref (ad k3)] D ad cI cM sz μ Q := by
  refine T_meti (by decide +kernel) (Nat.le_of_ble_eq_true rfl) ?_
  intro p e s m below meth c Z ls hx hb hml hown ht hN hK hw hret hl
  have hl : lv_has ls 4 [(0, .ref (ad 15)), (1, .int a1), (2, .ref (ad k2)), (3, .ref (ad k3))] := hl
  generalize s.heap = H at hw ⊢
  generalize ([] : List Loc) = locs at hw ⊢
  change (¬ a1 = (3 : Int32) → ((¬ a1 = (2 : Int32) → (wp_X3_makeOneWay k2 33 μ (fun (r4 : Int32) (μ3 : TMem) => (¬ r4 = 0 → (∀ J6 : TMem → Prop, (∀ (μ7 : TMem), (wp_X3_makeGroups 33 k3 μ7 (fun (μ8 : TMem) => Q (1 : Int32) μ8)) → J6 μ7) → ((¬ a1 = (1 : Int32) → (wp_X1_findByParting 33 μ3 (fun (μ10 : TMem) => J6 μ10))) ∧ (a1 = (1 : Int32) → (wp_X1_findByPairs 33 μ3 (fun (μ11 : TMem) => J6 μ11)))))) ∧ (r4 = 0 → (Q (0 : Int32) μ3))))) ∧ (a1 = (2 : Int32) → (wp_X3_makeByTurning k2 k3 μ (fun (r13 : Int32) (μ12 : TMem) => isB r13 ∧ Q r13 μ12))))) ∧ (a1 = (3 : Int32) → (wp_X3_makeOneWay k2 k3 μ (fun (r16 : Int32) (μ15 : TMem) => isB r16 ∧ Q r16 μ15))) at h
  refine lv_iload_n hx hb dX3_makeBy_0 rfl (lv_at hl 1 rfl) ?_
  refine lv_iconst (v := (3 : Int32)) hx hb dX3_makeBy_1 (by decide) ?_
  refine lv_icmp_ne (tgt := 12) hx hb dX3_makeBy_2 (by decide) (fun c1 => ?_) (fun c1 => ?_)
  · have h := h.1 c1
    refine lv_iload_n hx hb dX3_makeBy_12 rfl (lv_at hl 1 rfl) ?_
    refine lv_iconst (v := (2 : Int32)) hx hb dX3_makeBy_13 (by decide) ?_
    refine lv_icmp_ne (tgt := 24) hx hb dX3_makeBy_14 (by decide) (fun c2 => ?_) (fun c2 => ?_)
    · have h := h.1 c2
      refine lv_aload_n hx hb dX3_makeBy_24 rfl (lv_at hl 0 rfl) ?_
      refine lv_aload_n hx hb dX3_makeBy_25 rfl (lv_at hl 2 rfl) ?_
      refine lv_aload_n hx hb dX3_makeBy_26 rfl (lv_at hl 0 rfl) ?_
      refine gf_X3_46 hx hb ht hown hK hw rfl dX3_makeBy_27 ?_
      refine W.eq (g2 := F0 m 30 ls [.ref (ad 33), .ref (ad k2), .ref (ad 15)]) rfl ?_
      refine T_calli hw (va_runV (own := "Leastreader$Maker") (As := [.ref (ad k2), .ref (ad 33)]) (rest := []) ⟨hx, hb, hml, hown, ht⟩ (c_X3_makeOneWay k2 hk2 33 rfl μ H.size h) (cwV 2 ht (G_V q_390 q_391 q_392 q_50 q_393) rfl rfl rfl ⟨rfl, hd_15⟩ ⟨Nat.le_of_ble_eq_true rfl, Nat.le_of_ble_eq_true rfl⟩) ⟨TB.blind, (T_recv hK hw (kd_of rfl (by decide)) (ent_3 rfl) cl_3), TB.pre hK hN hw⟩ rfl rfl hl.1 rfl (lv_room (Nat.le_of_ble_eq_true rfl)) dX3_makeBy_30 ⟨Nat.le_of_ble_eq_true rfl, Nat.le_of_ble_eq_true rfl⟩) (fun r4 μ3 H locs h hw => ?_)
      refine lv_if_ne (tgt := 38) hx hb dX3_makeBy_33 (by decide) (fun c5 => ?_) (fun c5 => ?_)
      · have h := h.1 c5
        refine lv_iload_n hx hb dX3_makeBy_38 rfl (lv_at hl 1 rfl) ?_
        refine lv_iconst (v := (1 : Int32)) hx hb dX3_makeBy_39 (by decide) ?_
        have h := h (fun μ7 => ∀ (H : Heap) (locs : List Loc) (ls : Array Slot), TW D ad cI cM s μ7 H locs → lv_has ls 4 [(0, .ref (ad 15)), (3, .ref (ad k3))] → W p l e (RM 4) s m #[.ref (ad 15), .int a1, .ref (ad k2), .ref (ad k3)] below meth c H locs 0 0 Z (F0 m 68 ls [])) (fun μ7 h H locs ls hw hl => by
          refine lv_aload_n hx hb dX3_makeBy_68 rfl (lv_at hl 0 rfl) ?_
          refine lv_aload_n hx hb dX3_makeBy_69 rfl (lv_at hl 0 rfl) ?_
          refine gf_X3_46 hx hb ht hown hK hw rfl dX3_makeBy_70 ?_
          refine W.eq (g2 := F0 m 73 ls [.ref (ad 33), .ref (ad 15)]) rfl ?_
          refine lv_aload_n hx hb dX3_makeBy_73 rfl (lv_at hl 1 rfl) ?_
          refine T_callv hw (va_runV (own := "Leastreader$Maker") (As := [.ref (ad 33), .ref (ad k3)]) (rest := []) ⟨hx, hb, hml, hown, ht⟩ (c_X3_makeGroups 33 rfl k3 hk3 μ7 H.size h) (cwV 2 ht (G_V q_498 q_500 q_10 q_50 q_501) rfl rfl rfl ⟨rfl, hd_25⟩ ⟨Nat.le_of_ble_eq_true rfl, Nat.le_of_ble_eq_true rfl⟩) ⟨TB.blind, (T_recv hK hw (kd_of rfl (by decide)) (ent_3 rfl) cl_3), TB.pre hK hN hw⟩ rfl rfl hl.1 rfl (lv_room (Nat.le_of_ble_eq_true rfl)) dX3_makeBy_74 ⟨Nat.le_of_ble_eq_true rfl, Nat.le_of_ble_eq_true rfl⟩) (fun μ8 H locs h hw => ?_)
          refine lv_iconst (v := (1 : Int32)) hx hb dX3_makeBy_77 (by decide) ?_
          exact hret H locs ls 78 _ _ hw h rfl dX3_makeBy_78)
        refine lv_icmp_ne (tgt := 57) hx hb dX3_makeBy_40 (by decide) (fun c9 => ?_) (fun c9 => ?_)
        · have h := h.1 c9
          refine lv_aload_n hx hb dX3_makeBy_57 rfl (lv_at hl 0 rfl) ?_
          refine gf_X3_29 hx hb ht hown hK hw rfl dX3_makeBy_58 ?_
          refine W.eq (g2 := F0 m 61 ls [.ref (ad 22)]) rfl ?_
          refine lv_aload_n hx hb dX3_makeBy_61 rfl (lv_at hl 0 rfl) ?_
          refine gf_X3_46 hx hb ht hown hK hw rfl dX3_makeBy_62 ?_
          refine W.eq (g2 := F0 m 65 ls [.ref (ad 33), .ref (ad 22)]) rfl ?_
          refine T_callv hw (va_runV (own := "Leastreader$Maker") (As := [.ref (ad 33)]) (rest := []) ⟨hx, hb, hml, hown, ht⟩ (c_X1_findByParting 33 rfl μ3 H.size h) (cwV 1 ht (G_V q_482 q_483 q_484 q_52 q_485) rfl rfl rfl ⟨rfl, hd_24⟩ ⟨Nat.le_of_ble_eq_true rfl, Nat.le_of_ble_eq_true rfl⟩) ⟨TB.blind, (T_recv hK hw (kd_of rfl (by decide)) (ent_1 rfl) cl_1), TB.pre hK hN hw⟩ rfl rfl hl.1 rfl (lv_room (Nat.le_of_ble_eq_true rfl)) dX3_makeBy_65 ⟨Nat.le_of_ble_eq_true rfl, Nat.le_of_ble_eq_true rfl⟩) (fun μ10 H locs h hw => ?_)
          exact h H locs ls hw (lv_sub hl [0, 3] rfl)
        have h := h.2 c9
        refine lv_aload_n hx hb dX3_makeBy_43 rfl (lv_at hl 0 rfl) ?_
        refine gf_X3_29 hx hb ht hown hK hw rfl dX3_makeBy_44 ?_
        refine W.eq (g2 := F0 m 47 ls [.ref (ad 22)]) rfl ?_
        refine lv_aload_n hx hb dX3_makeBy_47 rfl (lv_at hl 0 rfl) ?_
        refine gf_X3_46 hx hb ht hown hK hw rfl dX3_makeBy_48 ?_
        refine W.eq (g2 := F0 m 51 ls [.ref (ad 33), .ref (ad 22)]) rfl ?_
        refine T_callv hw (va_runV (own := "Leastreader$Maker") (As := [.ref (ad 33)]) (rest := []) ⟨hx, hb, hml, hown, ht⟩ (c_X1_findByPairs 33 rfl μ3 H.size h) (cwV 1 ht (G_V q_454 q_455 q_456 q_52 q_457) rfl rfl rfl ⟨rfl, hd_48⟩ ⟨Nat.le_of_ble_eq_true rfl, Nat.le_of_ble_eq_true rfl⟩) ⟨TB.blind, (T_recv hK hw (kd_of rfl (by decide)) (ent_1 rfl) cl_1), TB.pre hK hN hw⟩ rfl rfl hl.1 rfl (lv_room (Nat.le_of_ble_eq_true rfl)) dX3_makeBy_51 ⟨Nat.le_of_ble_eq_true rfl, Nat.le_of_ble_eq_true rfl⟩) (fun μ11 H locs h hw => ?_)
        refine lv_goto (tgt := 68) hx hb dX3_makeBy_54 (by decide) ?_
        exact h H locs ls hw (lv_sub hl [0, 3] rfl)
      have h := h.2 c5
      refine lv_iconst (v := (0 : Int32)) hx hb dX3_makeBy_36 (by decide) ?_
      exact hret H locs ls 37 _ _ hw h rfl dX3_makeBy_37
    have h := h.2 c2
    refine lv_aload_n hx hb dX3_makeBy_17 rfl (lv_at hl 0 rfl) ?_
    refine lv_aload_n hx hb dX3_makeBy_18 rfl (lv_at hl 2 rfl) ?_
    refine lv_aload_n hx hb dX3_makeBy_19 rfl (lv_at hl 3 rfl) ?_
    refine T_calli hw (va_runV (own := "Leastreader$Maker") (As := [.ref (ad k2), .ref (ad k3)]) (rest := []) ⟨hx, hb, hml, hown, ht⟩ (c_X3_makeByTurning k2 hk2 k3 hk3 μ H.size h) (cwV 2 ht (G_V q_432 q_434 q_3 q_50 q_435) rfl rfl rfl ⟨rfl, hd_49⟩ ⟨Nat.le_of_ble_eq_true rfl, Nat.le_of_ble_eq_true rfl⟩) ⟨TB.blind, (T_recv hK hw (kd_of rfl (by decide)) (ent_3 rfl) cl_3), TB.pre hK hN hw⟩ rfl rfl hl.1 rfl (lv_room (Nat.le_of_ble_eq_true rfl)) dX3_makeBy_20 ⟨Nat.le_of_ble_eq_true rfl, Nat.le_of_ble_eq_true rfl⟩) (fun r13 μ12 H locs h hw => ?_)
    obtain ⟨z14, h⟩ := h
    exact hret H locs ls 23 _ _ hw h (isB_n z14) dX3_makeBy_23
  have h := h.2 c1
  refine lv_aload_n hx hb dX3_makeBy_5 rfl (lv_at hl 0 rfl) ?_
  refine lv_aload_n hx hb dX3_makeBy_6 rfl (lv_at hl 2 rfl) ?_
  refine lv_aload_n hx hb dX3_makeBy_7 rfl (lv_at hl 3 rfl) ?_
  refine T_calli hw (va_runV (own := "Leastreader$Maker") (As := [.ref (ad k2), .ref (ad k3)]) (rest := []) ⟨hx, hb, hml, hown, ht⟩ (c_X3_makeOneWay k2 hk2 k3 hk3 μ H.size h) (cwV 2 ht (G_V q_390 q_391 q_392 q_50 q_393) rfl rfl rfl ⟨rfl, hd_15⟩ ⟨Nat.le_of_ble_eq_true rfl, Nat.le_of_ble_eq_true rfl⟩) ⟨TB.blind, (T_recv hK hw (kd_of rfl (by decide)) (ent_3 rfl) cl_3), TB.pre hK hN hw⟩ rfl rfl hl.1 rfl (lv_room (Nat.le_of_ble_eq_true rfl)) dX3_makeBy_8 ⟨Nat.le_of_ble_eq_true rfl, Nat.le_of_ble_eq_true rfl⟩) (fun r16 μ15 H locs h hw => ?_)
  obtain ⟨z17, h⟩ := h
  exact hret H locs ls 11 _ _ hw h (isB_n z17) dX3_makeBy_11
def wp_X5_isSameAs (k0 : Nat) (k1 : Nat) (μ : TMem) (Q : Int32 → Prop) : Prop :=
  wp_X7_isSameTable k0 k1 μ (fun (r1 : Int32) => isB r1 ∧ Q r1)
set_option maxHeartbeats 4000000 in
set_option maxRecDepth 100000 in
theorem c_X5_isSameAs {l : Launch} {D : va_G} {ad : Nat → Nat} {cI cM : ClassId} (k0 : Nat) (hk0 : kd k0 = 5) (k1 : Nat) (hk1 : kd k1 = 5) (μ : TMem) (sz : Nat)  {Q : Int32 → Prop} (h : wp_X5_isSameAs k0 k1 μ Q) : TMi l yX5_isSameAs (.code yX5_isSameAs cX5_isSameAs 2 (Option.some Jvm.ClassFile.FieldType.boolean)) 2 [.ref (ad k0), .ref (ad k1)] D ad cI cM sz μ (fun r μ1 => μ1 = μ ∧ Q r) := by
  refine T_meti (by decide +kernel) (Nat.le_of_ble_eq_true rfl) ?_
  intro p e s m below meth c Z ls hx hb hml hown ht hN hK hw hret hl
  have hl : lv_has ls 2 [(0, .ref (ad k0)), (1, .ref (ad k1))] := hl
  generalize s.heap = H at hw ⊢
  generalize ([] : List Loc) = locs at hw ⊢
  change wp_X7_isSameTable k0 k1 μ (fun (r1 : Int32) => isB r1 ∧ Q r1) at h
  refine lv_aload_n hx hb dX5_isSameAs_0 rfl (lv_at hl 0 rfl) ?_
  refine lv_aload_n hx hb dX5_isSameAs_1 rfl (lv_at hl 1 rfl) ?_
  refine T_calli hw (va_runU (own := "Leastreader$Plain") (As := [.ref (ad k1)]) (rest := []) ⟨hx, hb, hml, hown, ht⟩ (c_X7_isSameTable_5 k0 hk0 k1 hk1 μ H.size h) (va_cwU (owner := "Leastreader$Table") 1 ht (G_U q_520 q_521 q_523 q_524 q_47 q_525) rfl rfl rfl rfl hd_44 ⟨Nat.le_of_ble_eq_true rfl, Nat.le_of_ble_eq_true rfl⟩) ⟨TB.blind, (T_recv hK hw (kd_of hk0 (by decide)) (ent_5 hk0) cl_5), TB.pre hK hN hw⟩ rfl rfl hl.1 rfl (lv_room (Nat.le_of_ble_eq_true rfl)) dX5_isSameAs_2 ⟨Nat.le_of_ble_eq_true rfl, Nat.le_of_ble_eq_true rfl⟩) (fun r1 μ2 H locs h hw => ?_)
  obtain ⟨e3, h⟩ := h
  rw [e3] at hw
  obtain ⟨z4, h⟩ := h
  exact hret H locs ls 5 _ _ hw ⟨rfl, h⟩ (isB_n z4) dX5_isSameAs_5
def wpl_X5_ledInto_15 (k0 : Nat) (μ : TMem) (v8 : Int32) (v10 : Int32) (K47 : Int32 → Prop) : Nat → Int32 → Int32 → Prop
  | 0, _, _ => False
  | n + 1, v7, v9 =>
    ((3 : Int32) ≤ v7 → (K47 v9)) ∧ (¬ (3 : Int32) ≤ v7 → (wp_X7_at k0 μ v8 v7 (fun (r12 : Int32) => wp_X9_isIn v10 r12 (fun (r15 : Int32) => (r15 = 0 → (wpl_X5_ledInto_15 k0 μ v8 v10 K47 n (v7 + (1 : Int32)) v9)) ∧ (¬ r15 = 0 → (wpl_X5_ledInto_15 k0 μ v8 v10 K47 n (v7 + (1 : Int32)) (v9 ||| ((1 : Int32) <<< (v8 &&& 31)))))))))
def wpl_X5_ledInto_4 (k0 : Nat) (μ : TMem) (v4 : Int32) (Q : Int32 → Prop) : Nat → Int32 → Int32 → Prop
  | 0, _, _ => False
  | n + 1, v2, v3 =>
    ((μ k0 1) ≤ v2 → (Q v3)) ∧ (¬ (μ k0 1) ≤ v2 → (∃ n5x, wpl_X5_ledInto_15 k0 μ v2 v4 (fun (u18 : Int32) => wpl_X5_ledInto_4 k0 μ v4 Q n (v2 + (1 : Int32)) u18) n5x (0 : Int32) v3))
def wp_X5_ledInto (k0 : Nat) (μ : TMem) (a1 : Int32) (Q : Int32 → Prop) : Prop :=
  ∃ n0x, wpl_X5_ledInto_4 k0 μ a1 Q n0x (0 : Int32) (0 : Int32)
set_option maxHeartbeats 4000000 in
set_option maxRecDepth 100000 in
theorem c_X5_ledInto {l : Launch} {D : va_G} {ad : Nat → Nat} {cI cM : ClassId} (k0 : Nat) (hk0 : kd k0 = 5) (μ : TMem) (sz : Nat) (a1 : Int32) {Q : Int32 → Prop} (h : wp_X5_ledInto k0 μ a1 Q) : TMi l yX5_ledInto (.code yX5_ledInto cX5_ledInto 5 (Option.some Jvm.ClassFile.FieldType.int)) 1 [.ref (ad k0), .int a1] D ad cI cM sz μ (fun r μ1 => μ1 = μ ∧ Q r) := by
  refine T_meti (by decide +kernel) (Nat.le_of_ble_eq_true rfl) ?_
  intro p e s m below meth c Z ls hx hb hml hown ht hN hK hw hret hl
  have hl : lv_has ls 5 [(0, .ref (ad k0)), (1, .int a1)] := hl
  generalize s.heap = H at hw ⊢
  generalize ([] : List Loc) = locs at hw ⊢
  change ∃ n0x, wpl_X5_ledInto_4 k0 μ a1 Q n0x (0 : Int32) (0 : Int32) at h
  refine lv_iconst (v := (0 : Int32)) hx hb dX5_ledInto_0 (by decide) ?_
  refine lv_istore_n (lv' := [(2, .int (0 : Int32)), (0, .ref (ad k0)), (1, .int a1)]) hx hb dX5_ledInto_1 rfl hl (by decide) rfl (fun ls hl => ?_)
  refine lv_iconst (v := (0 : Int32)) hx hb dX5_ledInto_2 (by decide) ?_
  refine lv_istore_n (lv' := [(3, .int (0 : Int32)), (2, .int (0 : Int32)), (0, .ref (ad k0)), (1, .int a1)]) hx hb dX5_ledInto_3 rfl hl (by decide) rfl (fun ls hl => ?_)
  obtain ⟨n19, h⟩ := h
  have L0 : ∀ (v4 : Int32), ∀ (n : Nat) (v2 : Int32) (v3 : Int32) (H : Heap) (locs : List Loc) (ls : Array Slot), TW D ad cI cM s μ H locs → lv_has ls 5 [(3, .int v2), (2, .int v3), (0, .ref (ad k0)), (1, .int v4)] → wpl_X5_ledInto_4 k0 μ v4 Q n v2 v3 → W p l e (RM 1) s m #[.ref (ad k0), .int a1] below meth c H locs 0 0 Z (F0 m 4 ls []) := by
    intro v4
    intro n
    induction n with
    | zero => intro v2 v3 H locs ls hw hl h; exact False.elim h
    | succ n ih0 =>
      intro v2 v3 H locs ls hw hl h
      change ((μ k0 1) ≤ v2 → (Q v3)) ∧ (¬ (μ k0 1) ≤ v2 → (∃ n5x, wpl_X5_ledInto_15 k0 μ v2 v4 (fun (u18 : Int32) => wpl_X5_ledInto_4 k0 μ v4 Q n (v2 + (1 : Int32)) u18) n5x (0 : Int32) v3)) at h
      refine lv_iload_n hx hb dX5_ledInto_4 rfl (lv_at hl 0 rfl) ?_
      refine lv_aload_n hx hb dX5_ledInto_5 rfl (lv_at hl 2 rfl) ?_
      refine gf_X5_28 hx hb ht hown hK hw hk0 dX5_ledInto_6 ?_
      refine lv_icmp_ge (tgt := 53) hx hb dX5_ledInto_9 (by decide) (fun c5 => ?_) (fun c5 => ?_)
      · have h := h.1 c5
        refine lv_iload_n hx hb dX5_ledInto_53 rfl (lv_at hl 1 rfl) ?_
        exact hret H locs ls 54 _ _ hw ⟨rfl, h⟩ rfl dX5_ledInto_54
      have h := h.2 c5
      refine lv_iconst (v := (0 : Int32)) hx hb dX5_ledInto_12 (by decide) ?_
      refine lv_istore (lv' := [(4, .int (0 : Int32)), (3, .int v2), (2, .int v3), (0, .ref (ad k0)), (1, .int v4)]) hx hb dX5_ledInto_13 hl (by decide) rfl (fun ls hl => ?_)
      obtain ⟨n17, h⟩ := h
      have L5 : ∀ (v8 : Int32) (v10 : Int32) (K47 : Int32 → Prop), (∀ (v9 : Int32) (H : Heap) (locs : List Loc) (ls : Array Slot), TW D ad cI cM s μ H locs → lv_has ls 5 [(3, .int v8), (2, .int v9), (0, .ref (ad k0)), (1, .int v10)] → K47 v9 → W p l e (RM 1) s m #[.ref (ad k0), .int a1] below meth c H locs 0 0 Z (F0 m 47 ls [])) → ∀ (n : Nat) (v7 : Int32) (v9 : Int32) (H : Heap) (locs : List Loc) (ls : Array Slot), TW D ad cI cM s μ H locs → lv_has ls 5 [(4, .int v7), (3, .int v8), (2, .int v9), (0, .ref (ad k0)), (1, .int v10)] → wpl_X5_ledInto_15 k0 μ v8 v10 K47 n v7 v9 → W p l e (RM 1) s m #[.ref (ad k0), .int a1] below meth c H locs 0 0 Z (F0 m 15 ls []) := by
        intro v8 v10 K47 hK47
        intro n
        induction n with
        | zero => intro v7 v9 H locs ls hw hl h; exact False.elim h
        | succ n ih5 =>
          intro v7 v9 H locs ls hw hl h
          change ((3 : Int32) ≤ v7 → (K47 v9)) ∧ (¬ (3 : Int32) ≤ v7 → (wp_X7_at k0 μ v8 v7 (fun (r12 : Int32) => wp_X9_isIn v10 r12 (fun (r15 : Int32) => (r15 = 0 → (wpl_X5_ledInto_15 k0 μ v8 v10 K47 n (v7 + (1 : Int32)) v9)) ∧ (¬ r15 = 0 → (wpl_X5_ledInto_15 k0 μ v8 v10 K47 n (v7 + (1 : Int32)) (v9 ||| ((1 : Int32) <<< (v8 &&& 31))))))))) at h
          refine lv_iload hx hb dX5_ledInto_15 (lv_at hl 0 rfl) ?_
          refine lv_iconst (v := (3 : Int32)) hx hb dX5_ledInto_17 (by decide) ?_
          refine lv_icmp_ge (tgt := 47) hx hb dX5_ledInto_18 (by decide) (fun c11 => ?_) (fun c11 => ?_)
          · have h := h.1 c11
            exact hK47 v9 H locs ls hw (lv_sub hl [1, 2, 3, 4] rfl) h
          have h := h.2 c11
          refine lv_iload_n hx hb dX5_ledInto_21 rfl (lv_at hl 4 rfl) ?_
          refine lv_aload_n hx hb dX5_ledInto_22 rfl (lv_at hl 3 rfl) ?_
          refine lv_iload_n hx hb dX5_ledInto_23 rfl (lv_at hl 1 rfl) ?_
          refine lv_iload hx hb dX5_ledInto_24 (lv_at hl 0 rfl) ?_
          refine T_calli hw (va_runU (own := "Leastreader$Plain") (As := [.int v8, .int v7]) (rest := [.int v10]) ⟨hx, hb, hml, hown, ht⟩ (c_X7_at_5 k0 hk0 μ H.size v8 v7 h) (va_cwU (owner := "Leastreader$Table") 2 ht (G_U q_539 q_452 q_453 q_416 q_47 q_417) rfl rfl rfl rfl hd_0 ⟨Nat.le_of_ble_eq_true rfl, Nat.le_of_ble_eq_true rfl⟩) ⟨TB.blind, (T_recv hK hw (kd_of hk0 (by decide)) (ent_5 hk0) cl_5), TB.pre hK hN hw⟩ rfl rfl hl.1 rfl (lv_room (Nat.le_of_ble_eq_true rfl)) dX5_ledInto_26 ⟨Nat.le_of_ble_eq_true rfl, Nat.le_of_ble_eq_true rfl⟩) (fun r12 μ13 H locs h hw => ?_)
          obtain ⟨e14, h⟩ := h
          rw [e14] at hw
          refine P_calli (va_runSN (own := "Leastreader$Plain") (As := [.int v10, .int r12]) (rest := []) ⟨hx, hb, hml, hown, ht⟩ (c_X9_isIn v10 r12 h) ⟨va_cnB 2 ht (G_ws q_411) rfl rfl rfl (nw_465 hN) (ht _ q_46) hd_5 ⟨Nat.le_of_ble_eq_true rfl, Nat.le_of_ble_eq_true rfl⟩, ht _ q_410, trivial⟩ ⟨PM_blind, PM_pre⟩ rfl rfl hl.1 rfl (lv_room (Nat.le_of_ble_eq_true rfl)) dX5_ledInto_29 ⟨Nat.le_of_ble_eq_true rfl, Nat.le_of_ble_eq_true rfl⟩) (fun r15 h => ?_)
          refine lv_if_eq (tgt := 41) hx hb dX5_ledInto_32 (by decide) (fun c16 => ?_) (fun c16 => ?_)
          · have h := h.1 c16
            refine lv_iinc (v := (v7 + (1 : Int32))) (lv' := [(4, .int (v7 + (1 : Int32))), (3, .int v8), (2, .int v9), (0, .ref (ad k0)), (1, .int v10)]) hx hb dX5_ledInto_41 hl (k := 0) rfl rfl (by decide) rfl (fun ls hl => ?_)
            refine lv_goto (tgt := 15) hx hb dX5_ledInto_44 (by decide) ?_
            exact ih5 (v7 + (1 : Int32)) v9 H locs ls hw (lv_sub hl [0, 1, 2, 3, 4] rfl) h
          have h := h.2 c16
          refine lv_iload_n hx hb dX5_ledInto_35 rfl (lv_at hl 2 rfl) ?_
          refine lv_iconst (v := (1 : Int32)) hx hb dX5_ledInto_36 (by decide) ?_
          refine lv_iload_n hx hb dX5_ledInto_37 rfl (lv_at hl 1 rfl) ?_
          refine lv_ishl hx hb dX5_ledInto_38 ?_
          refine lv_ior hx hb dX5_ledInto_39 ?_
          refine lv_istore_n (lv' := [(2, .int (v9 ||| ((1 : Int32) <<< (v8 &&& 31)))), (4, .int v7), (3, .int v8), (0, .ref (ad k0)), (1, .int v10)]) hx hb dX5_ledInto_40 rfl hl (by decide) rfl (fun ls hl => ?_)
          refine lv_iinc (v := (v7 + (1 : Int32))) (lv' := [(4, .int (v7 + (1 : Int32))), (2, .int (v9 ||| ((1 : Int32) <<< (v8 &&& 31)))), (3, .int v8), (0, .ref (ad k0)), (1, .int v10)]) hx hb dX5_ledInto_41 hl (k := 1) rfl rfl (by decide) rfl (fun ls hl => ?_)
          refine lv_goto (tgt := 15) hx hb dX5_ledInto_44 (by decide) ?_
          exact ih5 (v7 + (1 : Int32)) (v9 ||| ((1 : Int32) <<< (v8 &&& 31))) H locs ls hw (lv_sub hl [0, 2, 1, 3, 4] rfl) h
      refine L5 v2 v4 _ ?_ n17 (0 : Int32) v3 H locs ls hw (lv_sub hl [0, 1, 2, 3, 4] rfl) h
      intro u18 H locs ls hw hl h
      refine lv_iinc (v := (v2 + (1 : Int32))) (lv' := [(3, .int (v2 + (1 : Int32))), (2, .int u18), (0, .ref (ad k0)), (1, .int v4)]) hx hb dX5_ledInto_47 hl (k := 0) rfl rfl (by decide) rfl (fun ls hl => ?_)
      refine lv_goto (tgt := 4) hx hb dX5_ledInto_50 (by decide) ?_
      exact ih0 (v2 + (1 : Int32)) u18 H locs ls hw (lv_sub hl [0, 1, 2, 3] rfl) h
  exact L0 a1 n19 (0 : Int32) (0 : Int32) H locs ls hw (lv_sub hl [0, 1, 2, 3] rfl) h
def wpl_X5_isTakingLongOnes_7 (k0 : Nat) (μ : TMem) (Q : Int32 → Prop) : Nat → Int32 → Int32 → Prop
  | 0, _, _ => False
  | n + 1, v2, v3 =>
    (((2 : Int32) * (μ k0 1)) ≤ v2 → (Q (0 : Int32))) ∧ (¬ ((2 : Int32) * (μ k0 1)) ≤ v2 → (wp_X5_ledInto k0 μ v3 (fun (r5 : Int32) => (v2 < (μ k0 1) → (wpl_X5_isTakingLongOnes_7 k0 μ Q n (v2 + (1 : Int32)) r5)) ∧ (¬ v2 < (μ k0 1) → (wp_X9_isIn r5 (0 : Int32) (fun (r9 : Int32) => (r9 = 0 → (wpl_X5_isTakingLongOnes_7 k0 μ Q n (v2 + (1 : Int32)) r5)) ∧ (¬ r9 = 0 → (Q (1 : Int32)))))))))
def wp_X5_isTakingLongOnes (k0 : Nat) (μ : TMem) (Q : Int32 → Prop) : Prop :=
  ∃ n0x, wpl_X5_isTakingLongOnes_7 k0 μ Q n0x (1 : Int32) (μ k0 2)
set_option maxHeartbeats 4000000 in
set_option maxRecDepth 100000 in
theorem c_X5_isTakingLongOnes {l : Launch} {D : va_G} {ad : Nat → Nat} {cI cM : ClassId} (k0 : Nat) (hk0 : kd k0 = 5) (μ : TMem) (sz : Nat)  {Q : Int32 → Prop} (h : wp_X5_isTakingLongOnes k0 μ Q) : TMi l yX5_isTakingLongOnes (.code yX5_isTakingLongOnes cX5_isTakingLongOnes 3 (Option.some Jvm.ClassFile.FieldType.boolean)) 2 [.ref (ad k0)] D ad cI cM sz μ (fun r μ1 => μ1 = μ ∧ Q r) := by
  refine T_meti (by decide +kernel) (Nat.le_of_ble_eq_true rfl) ?_
  intro p e s m below meth c Z ls hx hb hml hown ht hN hK hw hret hl
  have hl : lv_has ls 3 [(0, .ref (ad k0))] := hl
  generalize s.heap = H at hw ⊢
  generalize ([] : List Loc) = locs at hw ⊢
  change ∃ n0x, wpl_X5_isTakingLongOnes_7 k0 μ Q n0x (1 : Int32) (μ k0 2) at h
  refine lv_aload_n hx hb dX5_isTakingLongOnes_0 rfl (lv_at hl 0 rfl) ?_
  refine gf_X5_9 hx hb ht hown hK hw hk0 dX5_isTakingLongOnes_1 ?_
  refine lv_istore_n (lv' := [(1, .int (μ k0 2)), (0, .ref (ad k0))]) hx hb dX5_isTakingLongOnes_4 rfl hl (by decide) rfl (fun ls hl => ?_)
  refine lv_iconst (v := (1 : Int32)) hx hb dX5_isTakingLongOnes_5 (by decide) ?_
  refine lv_istore_n (lv' := [(2, .int (1 : Int32)), (1, .int (μ k0 2)), (0, .ref (ad k0))]) hx hb dX5_isTakingLongOnes_6 rfl hl (by decide) rfl (fun ls hl => ?_)
  obtain ⟨n11, h⟩ := h
  have L0 : ∀ (n : Nat) (v2 : Int32) (v3 : Int32) (H : Heap) (locs : List Loc) (ls : Array Slot), TW D ad cI cM s μ H locs → lv_has ls 3 [(2, .int v2), (1, .int v3), (0, .ref (ad k0))] → wpl_X5_isTakingLongOnes_7 k0 μ Q n v2 v3 → W p l e (RM 2) s m #[.ref (ad k0)] below meth c H locs 0 0 Z (F0 m 7 ls []) := by
    intro n
    induction n with
    | zero => intro v2 v3 H locs ls hw hl h; exact False.elim h
    | succ n ih0 =>
      intro v2 v3 H locs ls hw hl h
      change (((2 : Int32) * (μ k0 1)) ≤ v2 → (Q (0 : Int32))) ∧ (¬ ((2 : Int32) * (μ k0 1)) ≤ v2 → (wp_X5_ledInto k0 μ v3 (fun (r5 : Int32) => (v2 < (μ k0 1) → (wpl_X5_isTakingLongOnes_7 k0 μ Q n (v2 + (1 : Int32)) r5)) ∧ (¬ v2 < (μ k0 1) → (wp_X9_isIn r5 (0 : Int32) (fun (r9 : Int32) => (r9 = 0 → (wpl_X5_isTakingLongOnes_7 k0 μ Q n (v2 + (1 : Int32)) r5)) ∧ (¬ r9 = 0 → (Q (1 : Int32))))))))) at h
      refine lv_iload_n hx hb dX5_isTakingLongOnes_7 rfl (lv_at hl 0 rfl) ?_
      refine lv_iconst (v := (2 : Int32)) hx hb dX5_isTakingLongOnes_8 (by decide) ?_
      refine lv_aload_n hx hb dX5_isTakingLongOnes_9 rfl (lv_at hl 2 rfl) ?_
      refine gf_X5_28 hx hb ht hown hK hw hk0 dX5_isTakingLongOnes_10 ?_
      refine lv_imul hx hb dX5_isTakingLongOnes_13 ?_
      refine lv_icmp_ge (tgt := 47) hx hb dX5_isTakingLongOnes_14 (by decide) (fun c4 => ?_) (fun c4 => ?_)
      · have h := h.1 c4
        refine lv_iconst (v := (0 : Int32)) hx hb dX5_isTakingLongOnes_47 (by decide) ?_
        exact hret H locs ls 48 _ _ hw ⟨rfl, h⟩ rfl dX5_isTakingLongOnes_48
      have h := h.2 c4
      refine lv_aload_n hx hb dX5_isTakingLongOnes_17 rfl (lv_at hl 2 rfl) ?_
      refine lv_iload_n hx hb dX5_isTakingLongOnes_18 rfl (lv_at hl 1 rfl) ?_
      refine T_calli hw (va_runV (own := "Leastreader$Plain") (As := [.int v3]) (rest := []) ⟨hx, hb, hml, hown, ht⟩ (c_X5_ledInto k0 hk0 μ H.size v3 h) (cwV 1 ht (G_V q_1169 q_1171 q_22 q_53 q_1172) rfl rfl rfl ⟨rfl, hd_50⟩ ⟨Nat.le_of_ble_eq_true rfl, Nat.le_of_ble_eq_true rfl⟩) ⟨TB.blind, (T_recv hK hw (kd_of hk0 (by decide)) (ent_5 hk0) cl_5), TB.pre hK hN hw⟩ rfl rfl hl.1 rfl (lv_room (Nat.le_of_ble_eq_true rfl)) dX5_isTakingLongOnes_19 ⟨Nat.le_of_ble_eq_true rfl, Nat.le_of_ble_eq_true rfl⟩) (fun r5 μ6 H locs h hw => ?_)
      obtain ⟨e7, h⟩ := h
      rw [e7] at hw
      refine lv_istore_n (lv' := [(1, .int r5), (2, .int v2), (0, .ref (ad k0))]) hx hb dX5_isTakingLongOnes_22 rfl hl (by decide) rfl (fun ls hl => ?_)
      refine lv_iload_n hx hb dX5_isTakingLongOnes_23 rfl (lv_at hl 1 rfl) ?_
      refine lv_aload_n hx hb dX5_isTakingLongOnes_24 rfl (lv_at hl 2 rfl) ?_
      refine gf_X5_28 hx hb ht hown hK hw hk0 dX5_isTakingLongOnes_25 ?_
      refine lv_icmp_lt (tgt := 41) hx hb dX5_isTakingLongOnes_28 (by decide) (fun c8 => ?_) (fun c8 => ?_)
      · have h := h.1 c8
        refine lv_iinc (v := (v2 + (1 : Int32))) (lv' := [(2, .int (v2 + (1 : Int32))), (1, .int r5), (0, .ref (ad k0))]) hx hb dX5_isTakingLongOnes_41 hl (k := 1) rfl rfl (by decide) rfl (fun ls hl => ?_)
        refine lv_goto (tgt := 7) hx hb dX5_isTakingLongOnes_44 (by decide) ?_
        exact ih0 (v2 + (1 : Int32)) r5 H locs ls hw (lv_sub hl [0, 1, 2] rfl) h
      have h := h.2 c8
      refine lv_iload_n hx hb dX5_isTakingLongOnes_31 rfl (lv_at hl 0 rfl) ?_
      refine lv_iconst (v := (0 : Int32)) hx hb dX5_isTakingLongOnes_32 (by decide) ?_
      refine P_calli (va_runSN (own := "Leastreader$Plain") (As := [.int r5, .int (0 : Int32)]) (rest := []) ⟨hx, hb, hml, hown, ht⟩ (c_X9_isIn r5 (0 : Int32) h) ⟨va_cnB 2 ht (G_ws q_411) rfl rfl rfl (nw_465 hN) (ht _ q_46) hd_5 ⟨Nat.le_of_ble_eq_true rfl, Nat.le_of_ble_eq_true rfl⟩, ht _ q_410, trivial⟩ ⟨PM_blind, PM_pre⟩ rfl rfl hl.1 rfl (lv_room (Nat.le_of_ble_eq_true rfl)) dX5_isTakingLongOnes_33 ⟨Nat.le_of_ble_eq_true rfl, Nat.le_of_ble_eq_true rfl⟩) (fun r9 h => ?_)
      refine lv_if_eq (tgt := 41) hx hb dX5_isTakingLongOnes_36 (by decide) (fun c10 => ?_) (fun c10 => ?_)
      · have h := h.1 c10
        refine lv_iinc (v := (v2 + (1 : Int32))) (lv' := [(2, .int (v2 + (1 : Int32))), (1, .int r5), (0, .ref (ad k0))]) hx hb dX5_isTakingLongOnes_41 hl (k := 1) rfl rfl (by decide) rfl (fun ls hl => ?_)
        refine lv_goto (tgt := 7) hx hb dX5_isTakingLongOnes_44 (by decide) ?_
        exact ih0 (v2 + (1 : Int32)) r5 H locs ls hw (lv_sub hl [0, 1, 2] rfl) h
      have h := h.2 c10
      refine lv_iconst (v := (1 : Int32)) hx hb dX5_isTakingLongOnes_39 (by decide) ?_
      exact hret H locs ls 40 _ _ hw ⟨rfl, h⟩ rfl dX5_isTakingLongOnes_40
  exact L0 n11 (1 : Int32) (μ k0 2) H locs ls hw (lv_sub hl [0, 1, 2] rfl) h
def wp_X8_from (μ : TMem) (a1 : Int32) (a2 : Int32) (Q : Int32 → Prop) : Prop :=
  wp_X6_at 49 μ ((a2 * (32 : Int32)) + a1) (fun (r1 : Int32) => Q r1)
set_option maxHeartbeats 4000000 in
set_option maxRecDepth 100000 in
theorem c_X8_from {l : Launch} {D : va_G} {ad : Nat → Nat} {cI cM : ClassId}  (μ : TMem) (sz : Nat) (a1 : Int32) (a2 : Int32) {Q : Int32 → Prop} (h : wp_X8_from μ a1 a2 Q) : TMi l yX8_from (.code yX8_from cX8_from 3 (Option.some Jvm.ClassFile.FieldType.int)) 1 [.ref (ad 48), .int a1, .int a2] D ad cI cM sz μ (fun r μ1 => μ1 = μ ∧ Q r) := by
  refine T_meti (by decide +kernel) (Nat.le_of_ble_eq_true rfl) ?_
  intro p e s m below meth c Z ls hx hb hml hown ht hN hK hw hret hl
  have hl : lv_has ls 3 [(0, .ref (ad 48)), (1, .int a1), (2, .int a2)] := hl
  generalize s.heap = H at hw ⊢
  generalize ([] : List Loc) = locs at hw ⊢
  change wp_X6_at 49 μ ((a2 * (32 : Int32)) + a1) (fun (r1 : Int32) => Q r1) at h
  refine lv_aload_n hx hb dX8_from_0 rfl (lv_at hl 0 rfl) ?_
  refine gf_X8_14 hx hb ht hown hK hw rfl dX8_from_1 ?_
  refine W.eq (g2 := F0 m 4 ls [.ref (ad 49)]) rfl ?_
  refine lv_iload_n hx hb dX8_from_4 rfl (lv_at hl 2 rfl) ?_
  refine lv_bipush (v := (32 : Int32)) hx hb dX8_from_5 (by decide) ?_
  refine lv_imul hx hb dX8_from_7 ?_
  refine lv_iload_n hx hb dX8_from_8 rfl (lv_at hl 1 rfl) ?_
  refine lv_iadd hx hb dX8_from_9 ?_
  refine T_calli hw (va_runV (own := "Leastreader$Tails") (As := [.int ((a2 * (32 : Int32)) + a1)]) (rest := []) ⟨hx, hb, hml, hown, ht⟩ (c_X6_at 49 rfl μ H.size ((a2 * (32 : Int32)) + a1) h) (cwV 1 ht (G_V q_1201 q_399 q_400 q_51 q_401) rfl rfl rfl ⟨rfl, hd_8⟩ ⟨Nat.le_of_ble_eq_true rfl, Nat.le_of_ble_eq_true rfl⟩) ⟨TB.blind, (T_recv hK hw (kd_of rfl (by decide)) (ent_6 rfl) cl_6), TB.pre hK hN hw⟩ rfl rfl hl.1 rfl (lv_room (Nat.le_of_ble_eq_true rfl)) dX8_from_10 ⟨Nat.le_of_ble_eq_true rfl, Nat.le_of_ble_eq_true rfl⟩) (fun r1 μ2 H locs h hw => ?_)
  obtain ⟨e3, h⟩ := h
  rw [e3] at hw
  exact hret H locs ls 13 _ _ hw ⟨rfl, h⟩ rfl dX8_from_13
def wpl_X8_sumOver_6 (k1 : Nat) (μ : TMem) (v4 : Int32) (v5 : Int32) (Q : Int32 → Prop) : Nat → Int32 → Int32 → Prop
  | 0, _, _ => False
  | n + 1, v2, v3 =>
    ((3 : Int32) ≤ v2 → (Q v3)) ∧ (¬ (3 : Int32) ≤ v2 → (wp_X7_at k1 μ v4 v2 (fun (r7 : Int32) => wp_X8_from μ r7 v5 (fun (r10 : Int32) => wpl_X8_sumOver_6 k1 μ v4 v5 Q n (v2 + (1 : Int32)) (v3 + r10)))))
def wp_X8_sumOver (k1 : Nat) (μ : TMem) (a2 : Int32) (a3 : Int32) (Q : Int32 → Prop) : Prop :=
  ∃ n0x, wpl_X8_sumOver_6 k1 μ a2 a3 Q n0x (0 : Int32) (0 : Int32)
set_option maxHeartbeats 4000000 in
set_option maxRecDepth 100000 in
theorem c_X8_sumOver {l : Launch} {D : va_G} {ad : Nat → Nat} {cI cM : ClassId} (k1 : Nat) (hk1 : kd k1 = 5) (μ : TMem) (sz : Nat) (a2 : Int32) (a3 : Int32) {Q : Int32 → Prop} (h : wp_X8_sumOver k1 μ a2 a3 Q) : TMi l yX8_sumOver (.code yX8_sumOver cX8_sumOver 6 (Option.some Jvm.ClassFile.FieldType.int)) 2 [.ref (ad 48), .ref (ad k1), .int a2, .int a3] D ad cI cM sz μ (fun r μ1 => μ1 = μ ∧ Q r) := by
  refine T_meti (by decide +kernel) (Nat.le_of_ble_eq_true rfl) ?_
  intro p e s m below meth c Z ls hx hb hml hown ht hN hK hw hret hl
  have hl : lv_has ls 6 [(0, .ref (ad 48)), (1, .ref (ad k1)), (2, .int a2), (3, .int a3)] := hl
  generalize s.heap = H at hw ⊢
  generalize ([] : List Loc) = locs at hw ⊢
  change ∃ n0x, wpl_X8_sumOver_6 k1 μ a2 a3 Q n0x (0 : Int32) (0 : Int32) at h
  refine lv_iconst (v := (0 : Int32)) hx hb dX8_sumOver_0 (by decide) ?_
  refine lv_istore (lv' := [(4, .int (0 : Int32)), (0, .ref (ad 48)), (1, .ref (ad k1)), (2, .int a2), (3, .int a3)]) hx hb dX8_sumOver_1 hl (by decide) rfl (fun ls hl => ?_)
  refine lv_iconst (v := (0 : Int32)) hx hb dX8_sumOver_3 (by decide) ?_
  refine lv_istore (lv' := [(5, .int (0 : Int32)), (4, .int (0 : Int32)), (0, .ref (ad 48)), (1, .ref (ad k1)), (2, .int a2), (3, .int a3)]) hx hb dX8_sumOver_4 hl (by decide) rfl (fun ls hl => ?_)
  obtain ⟨n13, h⟩ := h
  have L0 : ∀ (v4 : Int32) (v5 : Int32), ∀ (n : Nat) (v2 : Int32) (v3 : Int32) (H : Heap) (locs : List Loc) (ls : Array Slot), TW D ad cI cM s μ H locs → lv_has ls 6 [(5, .int v2), (4, .int v3), (0, .ref (ad 48)), (1, .ref (ad k1)), (2, .int v4), (3, .int v5)] → wpl_X8_sumOver_6 k1 μ v4 v5 Q n v2 v3 → W p l e (RM 2) s m #[.ref (ad 48), .ref (ad k1), .int a2, .int a3] below meth c H locs 0 0 Z (F0 m 6 ls []) := by
    intro v4 v5
    intro n
    induction n with
    | zero => intro v2 v3 H locs ls hw hl h; exact False.elim h
    | succ n ih0 =>
      intro v2 v3 H locs ls hw hl h
      change ((3 : Int32) ≤ v2 → (Q v3)) ∧ (¬ (3 : Int32) ≤ v2 → (wp_X7_at k1 μ v4 v2 (fun (r7 : Int32) => wp_X8_from μ r7 v5 (fun (r10 : Int32) => wpl_X8_sumOver_6 k1 μ v4 v5 Q n (v2 + (1 : Int32)) (v3 + r10))))) at h
      refine lv_iload hx hb dX8_sumOver_6 (lv_at hl 0 rfl) ?_
      refine lv_iconst (v := (3 : Int32)) hx hb dX8_sumOver_8 (by decide) ?_
      refine lv_icmp_ge (tgt := 35) hx hb dX8_sumOver_9 (by decide) (fun c6 => ?_) (fun c6 => ?_)
      · have h := h.1 c6
        refine lv_iload hx hb dX8_sumOver_35 (lv_at hl 1 rfl) ?_
        exact hret H locs ls 37 _ _ hw ⟨rfl, h⟩ rfl dX8_sumOver_37
      have h := h.2 c6
      refine lv_iload hx hb dX8_sumOver_12 (lv_at hl 1 rfl) ?_
      refine lv_aload_n hx hb dX8_sumOver_14 rfl (lv_at hl 2 rfl) ?_
      refine lv_aload_n hx hb dX8_sumOver_15 rfl (lv_at hl 3 rfl) ?_
      refine lv_iload_n hx hb dX8_sumOver_16 rfl (lv_at hl 4 rfl) ?_
      refine lv_iload hx hb dX8_sumOver_17 (lv_at hl 0 rfl) ?_
      refine T_calli hw (va_runU (own := "Leastreader$Tails") (As := [.int v4, .int v2]) (rest := [.ref (ad 48), .int v3]) ⟨hx, hb, hml, hown, ht⟩ (c_X7_at_5 k1 hk1 μ H.size v4 v2 h) (va_cwU (owner := "Leastreader$Table") 2 ht (G_U q_1196 q_452 q_453 q_416 q_47 q_417) rfl rfl rfl rfl hd_0 ⟨Nat.le_of_ble_eq_true rfl, Nat.le_of_ble_eq_true rfl⟩) ⟨TB.blind, (T_recv hK hw (kd_of hk1 (by decide)) (ent_5 hk1) cl_5), TB.pre hK hN hw⟩ rfl rfl hl.1 rfl (lv_room (Nat.le_of_ble_eq_true rfl)) dX8_sumOver_19 ⟨Nat.le_of_ble_eq_true rfl, Nat.le_of_ble_eq_true rfl⟩) (fun r7 μ8 H locs h hw => ?_)
      obtain ⟨e9, h⟩ := h
      rw [e9] at hw
      refine lv_iload_n hx hb dX8_sumOver_22 rfl (lv_at hl 5 rfl) ?_
      refine T_calli hw (va_runV (own := "Leastreader$Tails") (As := [.int r7, .int v5]) (rest := [.int v3]) ⟨hx, hb, hml, hown, ht⟩ (c_X8_from μ H.size r7 v5 h) (cwV 2 ht (G_V q_1197 q_1198 q_1199 q_55 q_1200) rfl rfl rfl ⟨rfl, hd_51⟩ ⟨Nat.le_of_ble_eq_true rfl, Nat.le_of_ble_eq_true rfl⟩) ⟨TB.blind, (T_recv hK hw (kd_of rfl (by decide)) (ent_7 rfl) cl_7), TB.pre hK hN hw⟩ rfl rfl hl.1 rfl (lv_room (Nat.le_of_ble_eq_true rfl)) dX8_sumOver_23 ⟨Nat.le_of_ble_eq_true rfl, Nat.le_of_ble_eq_true rfl⟩) (fun r10 μ11 H locs h hw => ?_)
      obtain ⟨e12, h⟩ := h
      rw [e12] at hw
      refine lv_iadd hx hb dX8_sumOver_26 ?_
      refine lv_istore (lv' := [(4, .int (v3 + r10)), (5, .int v2), (0, .ref (ad 48)), (1, .ref (ad k1)), (2, .int v4), (3, .int v5)]) hx hb dX8_sumOver_27 hl (by decide) rfl (fun ls hl => ?_)
      refine lv_iinc (v := (v2 + (1 : Int32))) (lv' := [(5, .int (v2 + (1 : Int32))), (4, .int (v3 + r10)), (0, .ref (ad 48)), (1, .ref (ad k1)), (2, .int v4), (3, .int v5)]) hx hb dX8_sumOver_29 hl (k := 1) rfl rfl (by decide) rfl (fun ls hl => ?_)
      refine lv_goto (tgt := 6) hx hb dX8_sumOver_32 (by decide) ?_
      exact ih0 (v2 + (1 : Int32)) (v3 + r10) H locs ls hw (lv_sub hl [0, 1, 2, 3, 4, 5] rfl) h
  exact L0 a2 a3 n13 (0 : Int32) (0 : Int32) H locs ls hw (lv_sub hl [0, 1, 2, 3, 4, 5] rfl) h
def wpl_X8_count_2 (k1 : Nat) (K37 : TMem → Prop) : Nat → Int32 → TMem → Prop
  | 0, _, _ => False
  | n + 1, v2, μ3 =>
    ((μ3 k1 1) ≤ v2 → (K37 μ3)) ∧ (¬ (μ3 k1 1) ≤ v2 → (wp_X5_isGoal k1 μ3 v2 (fun (r5 : Int32) => ∀ J8 : Int32 → Prop, (∀ (j9 : Int32), (wp_X6_put 49 μ3 v2 j9 (fun (μ10 : TMem) => wpl_X8_count_2 k1 K37 n (v2 + (1 : Int32)) μ10)) → J8 j9) → ((r5 = 0 → (J8 (0 : Int32))) ∧ (¬ r5 = 0 → (J8 (1 : Int32)))))))
def wpl_X8_count_47 (k1 : Nat) (v20 : Int32) (K83 : TMem → Prop) : Nat → Int32 → TMem → Prop
  | 0, _, _ => False
  | n + 1, v19, μ21 =>
    ((μ21 k1 1) ≤ v19 → (K83 μ21)) ∧ (¬ (μ21 k1 1) ≤ v19 → (wp_X8_sumOver k1 μ21 v19 (v20 - (1 : Int32)) (fun (r23 : Int32) => wp_X6_put 49 μ21 ((v20 * (32 : Int32)) + v19) r23 (fun (μ26 : TMem) => wpl_X8_count_47 k1 v20 K83 n (v19 + (1 : Int32)) μ26))))
def wpl_X8_count_39 (k1 : Nat) (Q : TMem → Prop) : Nat → Int32 → TMem → Prop
  | 0, _, _ => False
  | n + 1, v15, μ16 =>
    ((12 : Int32) < v15 → (Q μ16)) ∧ (¬ (12 : Int32) < v15 → (∃ n17x, wpl_X8_count_47 k1 v15 (fun (μ28 : TMem) => wpl_X8_count_39 k1 Q n (v15 + (1 : Int32)) μ28) n17x (0 : Int32) μ16))
def wp_X8_count (k1 : Nat) (μ : TMem) (Q : TMem → Prop) : Prop :=
  ∃ n0x, wpl_X8_count_2 k1 (fun (μ13 : TMem) => ∃ n13x, wpl_X8_count_39 k1 Q n13x (1 : Int32) μ13) n0x (0 : Int32) μ
set_option maxHeartbeats 4000000 in
set_option maxRecDepth 100000 in
theorem c_X8_count {l : Launch} {D : va_G} {ad : Nat → Nat} {cI cM : ClassId} (k1 : Nat) (hk1 : kd k1 = 5) (μ : TMem) (sz : Nat)  {Q : TMem → Prop} (h : wp_X8_count k1 μ Q) : TMv l yX8_count (.code yX8_count cX8_count 4 (Option.none : Option Jvm.ClassFile.FieldType)) 3 [.ref (ad 48), .ref (ad k1)] D ad cI cM sz μ Q := by
  refine T_metv (by decide +kernel) (Nat.le_of_ble_eq_true rfl) ?_
  intro p e s m below meth c Z ls hx hb hml hown ht hN hK hw hret hl
  have hl : lv_has ls 4 [(0, .ref (ad 48)), (1, .ref (ad k1))] := hl
  generalize s.heap = H at hw ⊢
  generalize ([] : List Loc) = locs at hw ⊢
  change ∃ n0x, wpl_X8_count_2 k1 (fun (μ13 : TMem) => ∃ n13x, wpl_X8_count_39 k1 Q n13x (1 : Int32) μ13) n0x (0 : Int32) μ at h
  refine lv_iconst (v := (0 : Int32)) hx hb dX8_count_0 (by decide) ?_
  refine lv_istore_n (lv' := [(2, .int (0 : Int32)), (0, .ref (ad 48)), (1, .ref (ad k1))]) hx hb dX8_count_1 rfl hl (by decide) rfl (fun ls hl => ?_)
  obtain ⟨n12, h⟩ := h
  have L0 : ∀ (K37 : TMem → Prop), (∀ (μ3 : TMem) (H : Heap) (locs : List Loc) (ls : Array Slot), TW D ad cI cM s μ3 H locs → lv_has ls 4 [(0, .ref (ad 48)), (1, .ref (ad k1))] → K37 μ3 → W p l e (RM 3) s m #[.ref (ad 48), .ref (ad k1)] below meth c H locs 0 0 Z (F0 m 37 ls [])) → ∀ (n : Nat) (v2 : Int32) (μ3 : TMem) (H : Heap) (locs : List Loc) (ls : Array Slot), TW D ad cI cM s μ3 H locs → lv_has ls 4 [(2, .int v2), (0, .ref (ad 48)), (1, .ref (ad k1))] → wpl_X8_count_2 k1 K37 n v2 μ3 → W p l e (RM 3) s m #[.ref (ad 48), .ref (ad k1)] below meth c H locs 0 0 Z (F0 m 2 ls []) := by
    intro K37 hK37
    intro n
    induction n with
    | zero => intro v2 μ3 H locs ls hw hl h; exact False.elim h
    | succ n ih0 =>
      intro v2 μ3 H locs ls hw hl h
      change ((μ3 k1 1) ≤ v2 → (K37 μ3)) ∧ (¬ (μ3 k1 1) ≤ v2 → (wp_X5_isGoal k1 μ3 v2 (fun (r5 : Int32) => ∀ J8 : Int32 → Prop, (∀ (j9 : Int32), (wp_X6_put 49 μ3 v2 j9 (fun (μ10 : TMem) => wpl_X8_count_2 k1 K37 n (v2 + (1 : Int32)) μ10)) → J8 j9) → ((r5 = 0 → (J8 (0 : Int32))) ∧ (¬ r5 = 0 → (J8 (1 : Int32))))))) at h
      refine lv_iload_n hx hb dX8_count_2 rfl (lv_at hl 0 rfl) ?_
      refine lv_aload_n hx hb dX8_count_3 rfl (lv_at hl 2 rfl) ?_
      refine gf_X8_24 hx hb ht hown hK hw hk1 dX8_count_4 ?_
      refine lv_icmp_ge (tgt := 37) hx hb dX8_count_7 (by decide) (fun c4 => ?_) (fun c4 => ?_)
      · have h := h.1 c4
        exact hK37 μ3 H locs ls hw (lv_sub hl [1, 2] rfl) h
      have h := h.2 c4
      refine lv_aload_n hx hb dX8_count_10 rfl (lv_at hl 1 rfl) ?_
      refine gf_X8_14 hx hb ht hown hK hw rfl dX8_count_11 ?_
      refine W.eq (g2 := F0 m 14 ls [.ref (ad 49)]) rfl ?_
      refine lv_iload_n hx hb dX8_count_14 rfl (lv_at hl 0 rfl) ?_
      refine lv_aload_n hx hb dX8_count_15 rfl (lv_at hl 2 rfl) ?_
      refine lv_iload_n hx hb dX8_count_16 rfl (lv_at hl 0 rfl) ?_
      refine T_calli hw (va_runV (own := "Leastreader$Tails") (As := [.int v2]) (rest := [.int v2, .ref (ad 49)]) ⟨hx, hb, hml, hown, ht⟩ (c_X5_isGoal k1 hk1 μ3 H.size v2 h) (cwV 1 ht (G_V q_1190 q_462 q_463 q_53 q_464) rfl rfl rfl ⟨rfl, hd_18⟩ ⟨Nat.le_of_ble_eq_true rfl, Nat.le_of_ble_eq_true rfl⟩) ⟨TB.blind, (T_recv hK hw (kd_of hk1 (by decide)) (ent_5 hk1) cl_5), TB.pre hK hN hw⟩ rfl rfl hl.1 rfl (lv_room (Nat.le_of_ble_eq_true rfl)) dX8_count_17 ⟨Nat.le_of_ble_eq_true rfl, Nat.le_of_ble_eq_true rfl⟩) (fun r5 μ6 H locs h hw => ?_)
      obtain ⟨e7, h⟩ := h
      rw [e7] at hw
      have h := h (fun j9 => ∀ (H : Heap) (locs : List Loc) (ls : Array Slot), TW D ad cI cM s μ3 H locs → lv_has ls 4 [(2, .int v2), (0, .ref (ad 48)), (1, .ref (ad k1))] → W p l e (RM 3) s m #[.ref (ad 48), .ref (ad k1)] below meth c H locs 0 0 Z (F0 m 28 ls [.int j9, .int v2, .ref (ad 49)])) (fun j9 h H locs ls hw hl => by
        refine T_callv hw (va_runV (own := "Leastreader$Tails") (As := [.int v2, .int j9]) (rest := []) ⟨hx, hb, hml, hown, ht⟩ (c_X6_put 49 rfl μ3 H.size v2 j9 h) (cwV 2 ht (G_V q_1191 q_395 q_396 q_51 q_397) rfl rfl rfl ⟨rfl, hd_7⟩ ⟨Nat.le_of_ble_eq_true rfl, Nat.le_of_ble_eq_true rfl⟩) ⟨TB.blind, (T_recv hK hw (kd_of rfl (by decide)) (ent_6 rfl) cl_6), TB.pre hK hN hw⟩ rfl rfl hl.1 rfl (lv_room (Nat.le_of_ble_eq_true rfl)) dX8_count_28 ⟨Nat.le_of_ble_eq_true rfl, Nat.le_of_ble_eq_true rfl⟩) (fun μ10 H locs h hw => ?_)
        refine lv_iinc (v := (v2 + (1 : Int32))) (lv' := [(2, .int (v2 + (1 : Int32))), (0, .ref (ad 48)), (1, .ref (ad k1))]) hx hb dX8_count_31 hl (k := 0) rfl rfl (by decide) rfl (fun ls hl => ?_)
        refine lv_goto (tgt := 2) hx hb dX8_count_34 (by decide) ?_
        exact ih0 (v2 + (1 : Int32)) μ10 H locs ls hw (lv_sub hl [0, 1, 2] rfl) h)
      refine lv_if_eq (tgt := 27) hx hb dX8_count_20 (by decide) (fun c11 => ?_) (fun c11 => ?_)
      · have h := h.1 c11
        refine lv_iconst (v := (0 : Int32)) hx hb dX8_count_27 (by decide) ?_
        exact h H locs ls hw (lv_sub hl [0, 1, 2] rfl)
      have h := h.2 c11
      refine lv_iconst (v := (1 : Int32)) hx hb dX8_count_23 (by decide) ?_
      refine lv_goto (tgt := 28) hx hb dX8_count_24 (by decide) ?_
      exact h H locs ls hw (lv_sub hl [0, 1, 2] rfl)
  refine L0 _ ?_ n12 (0 : Int32) μ H locs ls hw (lv_sub hl [0, 1, 2] rfl) h
  intro μ13 H locs ls hw hl h
  refine lv_iconst (v := (1 : Int32)) hx hb dX8_count_37 (by decide) ?_
  refine lv_istore_n (lv' := [(2, .int (1 : Int32)), (0, .ref (ad 48)), (1, .ref (ad k1))]) hx hb dX8_count_38 rfl hl (by decide) rfl (fun ls hl => ?_)
  obtain ⟨n29, h⟩ := h
  have L13 : ∀ (n : Nat) (v15 : Int32) (μ16 : TMem) (H : Heap) (locs : List Loc) (ls : Array Slot), TW D ad cI cM s μ16 H locs → lv_has ls 4 [(2, .int v15), (0, .ref (ad 48)), (1, .ref (ad k1))] → wpl_X8_count_39 k1 Q n v15 μ16 → W p l e (RM 3) s m #[.ref (ad 48), .ref (ad k1)] below meth c H locs 0 0 Z (F0 m 39 ls []) := by
    intro n
    induction n with
    | zero => intro v15 μ16 H locs ls hw hl h; exact False.elim h
    | succ n ih13 =>
      intro v15 μ16 H locs ls hw hl h
      change ((12 : Int32) < v15 → (Q μ16)) ∧ (¬ (12 : Int32) < v15 → (∃ n17x, wpl_X8_count_47 k1 v15 (fun (μ28 : TMem) => wpl_X8_count_39 k1 Q n (v15 + (1 : Int32)) μ28) n17x (0 : Int32) μ16)) at h
      refine lv_iload_n hx hb dX8_count_39 rfl (lv_at hl 0 rfl) ?_
      refine lv_bipush (v := (12 : Int32)) hx hb dX8_count_40 (by decide) ?_
      refine lv_icmp_gt (tgt := 89) hx hb dX8_count_42 (by decide) (fun c17 => ?_) (fun c17 => ?_)
      · have h := h.1 c17
        exact hret H locs ls 89 _ hw h dX8_count_89
      have h := h.2 c17
      refine lv_iconst (v := (0 : Int32)) hx hb dX8_count_45 (by decide) ?_
      refine lv_istore_n (lv' := [(3, .int (0 : Int32)), (2, .int v15), (0, .ref (ad 48)), (1, .ref (ad k1))]) hx hb dX8_count_46 rfl hl (by decide) rfl (fun ls hl => ?_)
      obtain ⟨n27, h⟩ := h
      have L17 : ∀ (v20 : Int32) (K83 : TMem → Prop), (∀ (μ21 : TMem) (H : Heap) (locs : List Loc) (ls : Array Slot), TW D ad cI cM s μ21 H locs → lv_has ls 4 [(2, .int v20), (0, .ref (ad 48)), (1, .ref (ad k1))] → K83 μ21 → W p l e (RM 3) s m #[.ref (ad 48), .ref (ad k1)] below meth c H locs 0 0 Z (F0 m 83 ls [])) → ∀ (n : Nat) (v19 : Int32) (μ21 : TMem) (H : Heap) (locs : List Loc) (ls : Array Slot), TW D ad cI cM s μ21 H locs → lv_has ls 4 [(3, .int v19), (2, .int v20), (0, .ref (ad 48)), (1, .ref (ad k1))] → wpl_X8_count_47 k1 v20 K83 n v19 μ21 → W p l e (RM 3) s m #[.ref (ad 48), .ref (ad k1)] below meth c H locs 0 0 Z (F0 m 47 ls []) := by
        intro v20 K83 hK83
        intro n
        induction n with
        | zero => intro v19 μ21 H locs ls hw hl h; exact False.elim h
        | succ n ih17 =>
          intro v19 μ21 H locs ls hw hl h
          change ((μ21 k1 1) ≤ v19 → (K83 μ21)) ∧ (¬ (μ21 k1 1) ≤ v19 → (wp_X8_sumOver k1 μ21 v19 (v20 - (1 : Int32)) (fun (r23 : Int32) => wp_X6_put 49 μ21 ((v20 * (32 : Int32)) + v19) r23 (fun (μ26 : TMem) => wpl_X8_count_47 k1 v20 K83 n (v19 + (1 : Int32)) μ26)))) at h
          refine lv_iload_n hx hb dX8_count_47 rfl (lv_at hl 0 rfl) ?_
          refine lv_aload_n hx hb dX8_count_48 rfl (lv_at hl 3 rfl) ?_
          refine gf_X8_24 hx hb ht hown hK hw hk1 dX8_count_49 ?_
          refine lv_icmp_ge (tgt := 83) hx hb dX8_count_52 (by decide) (fun c22 => ?_) (fun c22 => ?_)
          · have h := h.1 c22
            exact hK83 μ21 H locs ls hw (lv_sub hl [1, 2, 3] rfl) h
          have h := h.2 c22
          refine lv_aload_n hx hb dX8_count_55 rfl (lv_at hl 2 rfl) ?_
          refine gf_X8_14 hx hb ht hown hK hw rfl dX8_count_56 ?_
          refine W.eq (g2 := F0 m 59 ls [.ref (ad 49)]) rfl ?_
          refine lv_iload_n hx hb dX8_count_59 rfl (lv_at hl 1 rfl) ?_
          refine lv_bipush (v := (32 : Int32)) hx hb dX8_count_60 (by decide) ?_
          refine lv_imul hx hb dX8_count_62 ?_
          refine lv_iload_n hx hb dX8_count_63 rfl (lv_at hl 0 rfl) ?_
          refine lv_iadd hx hb dX8_count_64 ?_
          refine lv_aload_n hx hb dX8_count_65 rfl (lv_at hl 2 rfl) ?_
          refine lv_aload_n hx hb dX8_count_66 rfl (lv_at hl 3 rfl) ?_
          refine lv_iload_n hx hb dX8_count_67 rfl (lv_at hl 0 rfl) ?_
          refine lv_iload_n hx hb dX8_count_68 rfl (lv_at hl 1 rfl) ?_
          refine lv_iconst (v := (1 : Int32)) hx hb dX8_count_69 (by decide) ?_
          refine lv_isub hx hb dX8_count_70 ?_
          refine T_calli hw (va_runV (own := "Leastreader$Tails") (As := [.ref (ad k1), .int v19, .int (v20 - (1 : Int32))]) (rest := [.int ((v20 * (32 : Int32)) + v19), .ref (ad 49)]) ⟨hx, hb, hml, hown, ht⟩ (c_X8_sumOver k1 hk1 μ21 H.size v19 (v20 - (1 : Int32)) h) (cwV 3 ht (G_V q_1192 q_1194 q_23 q_55 q_1195) rfl rfl rfl ⟨rfl, hd_52⟩ ⟨Nat.le_of_ble_eq_true rfl, Nat.le_of_ble_eq_true rfl⟩) ⟨TB.blind, (T_recv hK hw (kd_of rfl (by decide)) (ent_7 rfl) cl_7), TB.pre hK hN hw⟩ rfl rfl hl.1 rfl (lv_room (Nat.le_of_ble_eq_true rfl)) dX8_count_71 ⟨Nat.le_of_ble_eq_true rfl, Nat.le_of_ble_eq_true rfl⟩) (fun r23 μ24 H locs h hw => ?_)
          obtain ⟨e25, h⟩ := h
          rw [e25] at hw
          refine T_callv hw (va_runV (own := "Leastreader$Tails") (As := [.int ((v20 * (32 : Int32)) + v19), .int r23]) (rest := []) ⟨hx, hb, hml, hown, ht⟩ (c_X6_put 49 rfl μ21 H.size ((v20 * (32 : Int32)) + v19) r23 h) (cwV 2 ht (G_V q_1191 q_395 q_396 q_51 q_397) rfl rfl rfl ⟨rfl, hd_7⟩ ⟨Nat.le_of_ble_eq_true rfl, Nat.le_of_ble_eq_true rfl⟩) ⟨TB.blind, (T_recv hK hw (kd_of rfl (by decide)) (ent_6 rfl) cl_6), TB.pre hK hN hw⟩ rfl rfl hl.1 rfl (lv_room (Nat.le_of_ble_eq_true rfl)) dX8_count_74 ⟨Nat.le_of_ble_eq_true rfl, Nat.le_of_ble_eq_true rfl⟩) (fun μ26 H locs h hw => ?_)
          refine lv_iinc (v := (v19 + (1 : Int32))) (lv' := [(3, .int (v19 + (1 : Int32))), (2, .int v20), (0, .ref (ad 48)), (1, .ref (ad k1))]) hx hb dX8_count_77 hl (k := 0) rfl rfl (by decide) rfl (fun ls hl => ?_)
          refine lv_goto (tgt := 47) hx hb dX8_count_80 (by decide) ?_
          exact ih17 (v19 + (1 : Int32)) μ26 H locs ls hw (lv_sub hl [0, 1, 2, 3] rfl) h
      refine L17 v15 _ ?_ n27 (0 : Int32) μ16 H locs ls hw (lv_sub hl [0, 1, 2, 3] rfl) h
      intro μ28 H locs ls hw hl h
      refine lv_iinc (v := (v15 + (1 : Int32))) (lv' := [(2, .int (v15 + (1 : Int32))), (0, .ref (ad 48)), (1, .ref (ad k1))]) hx hb dX8_count_83 hl (k := 0) rfl rfl (by decide) rfl (fun ls hl => ?_)
      refine lv_goto (tgt := 39) hx hb dX8_count_86 (by decide) ?_
      exact ih13 (v15 + (1 : Int32)) μ28 H locs ls hw (lv_sub hl [0, 1, 2] rfl) h
  exact L13 n29 (1 : Int32) μ13 H locs ls hw (lv_sub hl [0, 1, 2] rfl) h
end
/-! part 30.m11 -/
section

end
