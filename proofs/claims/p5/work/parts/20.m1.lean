def wp_X9_knock (μ : TMem) (Q : Int32 → TMem → Prop) : Prop :=
  Q ((tms μ 0 13 ((μ 0 13) + (1 : Int32))) 0 13) (tms μ 0 13 ((μ 0 13) + (1 : Int32)))
set_option maxHeartbeats 4000000 in
set_option maxRecDepth 100000 in
theorem c_X9_knock {l : Launch} {D : va_G} {ad : Nat → Nat} {cI cM : ClassId}  (μ : TMem) (sz : Nat)  {Q : Int32 → TMem → Prop} (h : wp_X9_knock μ Q) : TMi l yX9_knock (.code yX9_knock cX9_knock 1 (Option.some Jvm.ClassFile.FieldType.int)) 0 [.ref (ad 0)] D ad cI cM sz μ Q := by
  refine T_meti (by decide +kernel) (Nat.le_of_ble_eq_true rfl) ?_
  intro p e s m below meth c Z ls hx hb hml hown ht hN hK hw hret hl
  have hl : lv_has ls 1 [(0, .ref (ad 0))] := hl
  generalize s.heap = H at hw ⊢
  generalize ([] : List Loc) = locs at hw ⊢
  change Q ((tms μ 0 13 ((μ 0 13) + (1 : Int32))) 0 13) (tms μ 0 13 ((μ 0 13) + (1 : Int32))) at h
  refine lv_aload_n hx hb dX9_knock_0 rfl (lv_at hl 0 rfl) ?_
  refine lv_dup hx hb dX9_knock_1 rfl ?_
  refine gf_X9_252 hx hb ht hown hK hw rfl dX9_knock_2 ?_
  refine lv_iconst (v := (1 : Int32)) hx hb dX9_knock_5 (by decide) ?_
  refine lv_iadd hx hb dX9_knock_6 ?_
  refine pgf_X9_252 hx hb ht hown hK hw rfl dX9_knock_7 (fun H locs hw => ?_)
  refine lv_aload_n hx hb dX9_knock_10 rfl (lv_at hl 0 rfl) ?_
  refine gf_X9_252 hx hb ht hown hK hw rfl dX9_knock_11 ?_
  exact hret H locs ls 14 _ _ hw h rfl dX9_knock_14
def wpl_X9_countCodes_4 (v4 : Int32) (Q : Int32 → Prop) : Nat → Int32 → Int32 → Prop
  | 0, _, _ => False
  | n + 1, v2, v3 =>
    (v4 ≤ v2 → (Q v3)) ∧ (¬ v4 ≤ v2 → (wpl_X9_countCodes_4 v4 Q n (v2 + (1 : Int32)) (v3 * (3 : Int32))))
def wp_X9_countCodes (a0 : Int32) (Q : Int32 → Prop) : Prop :=
  ∃ n0x, wpl_X9_countCodes_4 a0 Q n0x (0 : Int32) (1 : Int32)
set_option maxHeartbeats 4000000 in
set_option maxRecDepth 100000 in
theorem c_X9_countCodes {l : Launch} (a0 : Int32) {Q : Int32 → Prop} (h : wp_X9_countCodes a0 Q) : PMi l yX9_countCodes (.code yX9_countCodes cX9_countCodes 3 (Option.some Jvm.ClassFile.FieldType.int)) 0 [.int a0] Q := by
  refine P_meti (by decide +kernel) (Nat.le_of_ble_eq_true rfl) ?_
  intro p e s m below meth c Z ls hx hb hml hown ht hret hl
  have hl : lv_has ls 3 [(0, .int a0)] := hl
  change ∃ n0x, wpl_X9_countCodes_4 a0 Q n0x (0 : Int32) (1 : Int32) at h
  refine lv_iconst (v := (1 : Int32)) hx hb dX9_countCodes_0 (by decide) ?_
  refine lv_istore_n (lv' := [(1, .int (1 : Int32)), (0, .int a0)]) hx hb dX9_countCodes_1 rfl hl (by decide) rfl (fun ls hl => ?_)
  refine lv_iconst (v := (0 : Int32)) hx hb dX9_countCodes_2 (by decide) ?_
  refine lv_istore_n (lv' := [(2, .int (0 : Int32)), (1, .int (1 : Int32)), (0, .int a0)]) hx hb dX9_countCodes_3 rfl hl (by decide) rfl (fun ls hl => ?_)
  obtain ⟨n6, h⟩ := h
  have L0 : ∀ (v4 : Int32), ∀ (n : Nat) (v2 : Int32) (v3 : Int32) (ls : Array Slot), lv_has ls 3 [(2, .int v2), (1, .int v3), (0, .int v4)] → wpl_X9_countCodes_4 v4 Q n v2 v3 → W p l e (RM 0) s m #[.int a0] below meth c s.heap [] 0 0 Z (F0 m 4 ls []) := by
    intro v4
    intro n
    induction n with
    | zero => intro v2 v3 ls hl h; exact False.elim h
    | succ n ih0 =>
      intro v2 v3 ls hl h
      change (v4 ≤ v2 → (Q v3)) ∧ (¬ v4 ≤ v2 → (wpl_X9_countCodes_4 v4 Q n (v2 + (1 : Int32)) (v3 * (3 : Int32)))) at h
      refine lv_iload_n hx hb dX9_countCodes_4 rfl (lv_at hl 0 rfl) ?_
      refine lv_iload_n hx hb dX9_countCodes_5 rfl (lv_at hl 2 rfl) ?_
      refine lv_icmp_ge (tgt := 19) hx hb dX9_countCodes_6 (by decide) (fun c5 => ?_) (fun c5 => ?_)
      · have h := h.1 c5
        refine lv_iload_n hx hb dX9_countCodes_19 rfl (lv_at hl 1 rfl) ?_
        exact hret ls 20 _ h rfl dX9_countCodes_20
      have h := h.2 c5
      refine lv_iload_n hx hb dX9_countCodes_9 rfl (lv_at hl 1 rfl) ?_
      refine lv_iconst (v := (3 : Int32)) hx hb dX9_countCodes_10 (by decide) ?_
      refine lv_imul hx hb dX9_countCodes_11 ?_
      refine lv_istore_n (lv' := [(1, .int (v3 * (3 : Int32))), (2, .int v2), (0, .int v4)]) hx hb dX9_countCodes_12 rfl hl (by decide) rfl (fun ls hl => ?_)
      refine lv_iinc (v := (v2 + (1 : Int32))) (lv' := [(2, .int (v2 + (1 : Int32))), (1, .int (v3 * (3 : Int32))), (0, .int v4)]) hx hb dX9_countCodes_13 hl (k := 1) rfl rfl (by decide) rfl (fun ls hl => ?_)
      refine lv_goto (tgt := 4) hx hb dX9_countCodes_16 (by decide) ?_
      exact ih0 (v2 + (1 : Int32)) (v3 * (3 : Int32)) ls (lv_sub hl [0, 1, 2] rfl) h
  exact L0 a0 n6 (0 : Int32) (1 : Int32) ls (lv_sub hl [0, 1, 2] rfl) h
def wp_X9_isIn (a0 : Int32) (a1 : Int32) (Q : Int32 → Prop) : Prop :=
  (((a0 >>> (a1 &&& 31)) &&& (1 : Int32)) = 0 → (Q (0 : Int32))) ∧ (¬ ((a0 >>> (a1 &&& 31)) &&& (1 : Int32)) = 0 → (Q (1 : Int32)))
set_option maxHeartbeats 4000000 in
set_option maxRecDepth 100000 in
theorem c_X9_isIn {l : Launch} (a0 : Int32) (a1 : Int32) {Q : Int32 → Prop} (h : wp_X9_isIn a0 a1 Q) : PMi l yX9_isIn (.code yX9_isIn cX9_isIn 2 (Option.some Jvm.ClassFile.FieldType.boolean)) 0 [.int a0, .int a1] Q := by
  refine P_meti (by decide +kernel) (Nat.le_of_ble_eq_true rfl) ?_
  intro p e s m below meth c Z ls hx hb hml hown ht hret hl
  have hl : lv_has ls 2 [(0, .int a0), (1, .int a1)] := hl
  change (((a0 >>> (a1 &&& 31)) &&& (1 : Int32)) = 0 → (Q (0 : Int32))) ∧ (¬ ((a0 >>> (a1 &&& 31)) &&& (1 : Int32)) = 0 → (Q (1 : Int32))) at h
  refine lv_iload_n hx hb dX9_isIn_0 rfl (lv_at hl 0 rfl) ?_
  refine lv_iload_n hx hb dX9_isIn_1 rfl (lv_at hl 1 rfl) ?_
  refine lv_ishr hx hb dX9_isIn_2 ?_
  refine lv_iconst (v := (1 : Int32)) hx hb dX9_isIn_3 (by decide) ?_
  refine lv_iand hx hb dX9_isIn_4 ?_
  refine lv_if_eq (tgt := 12) hx hb dX9_isIn_5 (by decide) (fun c1 => ?_) (fun c1 => ?_)
  · have h := h.1 c1
    refine lv_iconst (v := (0 : Int32)) hx hb dX9_isIn_12 (by decide) ?_
    exact hret ls 13 _ h rfl dX9_isIn_13
  have h := h.2 c1
  refine lv_iconst (v := (1 : Int32)) hx hb dX9_isIn_8 (by decide) ?_
  refine lv_goto (tgt := 13) hx hb dX9_isIn_9 (by decide) ?_
  exact hret ls 13 _ h rfl dX9_isIn_13
def wp_X9_withOrWithout (a0 : Int32) (a1 : Int32) (a2 : Int32) (Q : Int32 → Prop) : Prop :=
  (a2 = 0 → (Q (a0 &&& (((1 : Int32) <<< (a1 &&& 31)) ^^^ (-1 : Int32))))) ∧ (¬ a2 = 0 → (Q (a0 ||| ((1 : Int32) <<< (a1 &&& 31)))))
set_option maxHeartbeats 4000000 in
set_option maxRecDepth 100000 in
theorem c_X9_withOrWithout {l : Launch} (a0 : Int32) (a1 : Int32) (a2 : Int32) {Q : Int32 → Prop} (h : wp_X9_withOrWithout a0 a1 a2 Q) : PMi l yX9_withOrWithout (.code yX9_withOrWithout cX9_withOrWithout 3 (Option.some Jvm.ClassFile.FieldType.int)) 0 [.int a0, .int a1, .int a2] Q := by
  refine P_meti (by decide +kernel) (Nat.le_of_ble_eq_true rfl) ?_
  intro p e s m below meth c Z ls hx hb hml hown ht hret hl
  have hl : lv_has ls 3 [(0, .int a0), (1, .int a1), (2, .int a2)] := hl
  change (a2 = 0 → (Q (a0 &&& (((1 : Int32) <<< (a1 &&& 31)) ^^^ (-1 : Int32))))) ∧ (¬ a2 = 0 → (Q (a0 ||| ((1 : Int32) <<< (a1 &&& 31))))) at h
  refine lv_iload_n hx hb dX9_withOrWithout_0 rfl (lv_at hl 2 rfl) ?_
  refine lv_if_eq (tgt := 12) hx hb dX9_withOrWithout_1 (by decide) (fun c1 => ?_) (fun c1 => ?_)
  · have h := h.1 c1
    refine lv_iload_n hx hb dX9_withOrWithout_12 rfl (lv_at hl 0 rfl) ?_
    refine lv_iconst (v := (1 : Int32)) hx hb dX9_withOrWithout_13 (by decide) ?_
    refine lv_iload_n hx hb dX9_withOrWithout_14 rfl (lv_at hl 1 rfl) ?_
    refine lv_ishl hx hb dX9_withOrWithout_15 ?_
    refine lv_iconst (v := (-1 : Int32)) hx hb dX9_withOrWithout_16 (by decide) ?_
    refine lv_ixor hx hb dX9_withOrWithout_17 ?_
    refine lv_iand hx hb dX9_withOrWithout_18 ?_
    exact hret ls 19 _ h rfl dX9_withOrWithout_19
  have h := h.2 c1
  refine lv_iload_n hx hb dX9_withOrWithout_4 rfl (lv_at hl 0 rfl) ?_
  refine lv_iconst (v := (1 : Int32)) hx hb dX9_withOrWithout_5 (by decide) ?_
  refine lv_iload_n hx hb dX9_withOrWithout_6 rfl (lv_at hl 1 rfl) ?_
  refine lv_ishl hx hb dX9_withOrWithout_7 ?_
  refine lv_ior hx hb dX9_withOrWithout_8 ?_
  refine lv_goto (tgt := 19) hx hb dX9_withOrWithout_9 (by decide) ?_
  exact hret ls 19 _ h rfl dX9_withOrWithout_19
def wp_X9_letterOf (a0 : Int32) (Q : Int32 → Prop) : Prop :=
  Q ((((97 : Int32) + a0).toUInt32 % 65536).toInt32)
set_option maxHeartbeats 4000000 in
set_option maxRecDepth 100000 in
theorem c_X9_letterOf {l : Launch} (a0 : Int32) {Q : Int32 → Prop} (h : wp_X9_letterOf a0 Q) : PMi l yX9_letterOf (.code yX9_letterOf cX9_letterOf 1 (Option.some Jvm.ClassFile.FieldType.char)) 0 [.int a0] Q := by
  refine P_meti (by decide +kernel) (Nat.le_of_ble_eq_true rfl) ?_
  intro p e s m below meth c Z ls hx hb hml hown ht hret hl
  have hl : lv_has ls 1 [(0, .int a0)] := hl
  change Q ((((97 : Int32) + a0).toUInt32 % 65536).toInt32) at h
  refine lv_bipush (v := (97 : Int32)) hx hb dX9_letterOf_0 (by decide) ?_
  refine lv_iload_n hx hb dX9_letterOf_2 rfl (lv_at hl 0 rfl) ?_
  refine lv_iadd hx hb dX9_letterOf_3 ?_
  refine lv_i2c hx hb dX9_letterOf_4 rfl ?_
  exact hret ls 5 _ h (pk_nc _) dX9_letterOf_5
def wp_X9_acted (μ : TMem) (a1 : Int32) (Q : Int32 → TMem → Prop) : Prop :=
  Q a1 (tms μ 0 11 ((μ 0 11) + (1 : Int32)))
set_option maxHeartbeats 4000000 in
set_option maxRecDepth 100000 in
theorem c_X9_acted {l : Launch} {D : va_G} {ad : Nat → Nat} {cI cM : ClassId}  (μ : TMem) (sz : Nat) (a1 : Int32) {Q : Int32 → TMem → Prop} (h : wp_X9_acted μ a1 Q) : TMi l yX9_acted (.code yX9_acted cX9_acted 2 (Option.some Jvm.ClassFile.FieldType.int)) 0 [.ref (ad 0), .int a1] D ad cI cM sz μ Q := by
  refine T_meti (by decide +kernel) (Nat.le_of_ble_eq_true rfl) ?_
  intro p e s m below meth c Z ls hx hb hml hown ht hN hK hw hret hl
  have hl : lv_has ls 2 [(0, .ref (ad 0)), (1, .int a1)] := hl
  generalize s.heap = H at hw ⊢
  generalize ([] : List Loc) = locs at hw ⊢
  change Q a1 (tms μ 0 11 ((μ 0 11) + (1 : Int32))) at h
  refine lv_aload_n hx hb dX9_acted_0 rfl (lv_at hl 0 rfl) ?_
  refine lv_dup hx hb dX9_acted_1 rfl ?_
  refine gf_X9_246 hx hb ht hown hK hw rfl dX9_acted_2 ?_
  refine lv_iconst (v := (1 : Int32)) hx hb dX9_acted_5 (by decide) ?_
  refine lv_iadd hx hb dX9_acted_6 ?_
  refine pgf_X9_246 hx hb ht hown hK hw rfl dX9_acted_7 (fun H locs hw => ?_)
  refine lv_iload_n hx hb dX9_acted_10 rfl (lv_at hl 1 rfl) ?_
  exact hret H locs ls 11 _ _ hw h rfl dX9_acted_11
def wp_X9_refuse (μ : TMem) (Q : Int32 → TMem → Prop) : Prop :=
  Q (-9 : Int32) (tms μ 0 12 ((μ 0 12) + (1 : Int32)))
set_option maxHeartbeats 4000000 in
set_option maxRecDepth 100000 in
theorem c_X9_refuse {l : Launch} {D : va_G} {ad : Nat → Nat} {cI cM : ClassId}  (μ : TMem) (sz : Nat)  {Q : Int32 → TMem → Prop} (h : wp_X9_refuse μ Q) : TMi l yX9_refuse (.code yX9_refuse cX9_refuse 1 (Option.some Jvm.ClassFile.FieldType.int)) 0 [.ref (ad 0)] D ad cI cM sz μ Q := by
  refine T_meti (by decide +kernel) (Nat.le_of_ble_eq_true rfl) ?_
  intro p e s m below meth c Z ls hx hb hml hown ht hN hK hw hret hl
  have hl : lv_has ls 1 [(0, .ref (ad 0))] := hl
  generalize s.heap = H at hw ⊢
  generalize ([] : List Loc) = locs at hw ⊢
  change Q (-9 : Int32) (tms μ 0 12 ((μ 0 12) + (1 : Int32))) at h
  refine lv_aload_n hx hb dX9_refuse_0 rfl (lv_at hl 0 rfl) ?_
  refine lv_dup hx hb dX9_refuse_1 rfl ?_
  refine gf_X9_249 hx hb ht hown hK hw rfl dX9_refuse_2 ?_
  refine lv_iconst (v := (1 : Int32)) hx hb dX9_refuse_5 (by decide) ?_
  refine lv_iadd hx hb dX9_refuse_6 ?_
  refine pgf_X9_249 hx hb ht hown hK hw rfl dX9_refuse_7 (fun H locs hw => ?_)
  refine lv_bipush (v := (-9 : Int32)) hx hb dX9_refuse_10 (by decide) ?_
  exact hret H locs ls 12 _ _ hw h rfl dX9_refuse_12
def wp_X7_at (k0 : Nat) (μ : TMem) (a1 : Int32) (a2 : Int32) (Q : Int32 → Prop) : Prop :=
  (((a1 * (3 : Int32)) + a2) < 0 → (Q (0 : Int32))) ∧ (¬ ((a1 * (3 : Int32)) + a2) < 0 → (((nI (tl (k0 + 1))) ≤ ((a1 * (3 : Int32)) + a2) → (Q (0 : Int32))) ∧ (¬ (nI (tl (k0 + 1))) ≤ ((a1 * (3 : Int32)) + a2) → (vp_in ((a1 * (3 : Int32)) + a2) (tl (k0 + 1)) ∧ (Q (μ (k0 + 1) ((a1 * (3 : Int32)) + a2).toNatClampNeg))))))
set_option maxHeartbeats 4000000 in
set_option maxRecDepth 100000 in
theorem c_X7_at_2 {l : Launch} {D : va_G} {ad : Nat → Nat} {cI cM : ClassId} (k0 : Nat) (hk0 : kd k0 = 2) (μ : TMem) (sz : Nat) (a1 : Int32) (a2 : Int32) {Q : Int32 → Prop} (h : wp_X7_at k0 μ a1 a2 Q) : TMi l yX7_at (.code yX7_at cX7_at 4 (Option.some Jvm.ClassFile.FieldType.int)) 0 [.ref (ad k0), .int a1, .int a2] D ad cI cM sz μ (fun r μ1 => μ1 = μ ∧ Q r) := by
  refine T_meti (by decide +kernel) (Nat.le_of_ble_eq_true rfl) ?_
  intro p e s m below meth c Z ls hx hb hml hown ht hN hK hw hret hl
  have hl : lv_has ls 4 [(0, .ref (ad k0)), (1, .int a1), (2, .int a2)] := hl
  generalize s.heap = H at hw ⊢
  generalize ([] : List Loc) = locs at hw ⊢
  change (((a1 * (3 : Int32)) + a2) < 0 → (Q (0 : Int32))) ∧ (¬ ((a1 * (3 : Int32)) + a2) < 0 → (((nI (tl (k0 + 1))) ≤ ((a1 * (3 : Int32)) + a2) → (Q (0 : Int32))) ∧ (¬ (nI (tl (k0 + 1))) ≤ ((a1 * (3 : Int32)) + a2) → (vp_in ((a1 * (3 : Int32)) + a2) (tl (k0 + 1)) ∧ (Q (μ (k0 + 1) ((a1 * (3 : Int32)) + a2).toNatClampNeg)))))) at h
  refine lv_iload_n hx hb dX7_at_0 rfl (lv_at hl 1 rfl) ?_
  refine lv_iconst (v := (3 : Int32)) hx hb dX7_at_1 (by decide) ?_
  refine lv_imul hx hb dX7_at_2 ?_
  refine lv_iload_n hx hb dX7_at_3 rfl (lv_at hl 2 rfl) ?_
  refine lv_iadd hx hb dX7_at_4 ?_
  refine lv_istore_n (lv' := [(3, .int ((a1 * (3 : Int32)) + a2)), (0, .ref (ad k0)), (1, .int a1), (2, .int a2)]) hx hb dX7_at_5 rfl hl (by decide) rfl (fun ls hl => ?_)
  refine lv_iload_n hx hb dX7_at_6 rfl (lv_at hl 0 rfl) ?_
  refine lv_if_lt (tgt := 28) hx hb dX7_at_7 (by decide) (fun c1 => ?_) (fun c1 => ?_)
  · have h := h.1 c1
    refine lv_iconst (v := (0 : Int32)) hx hb dX7_at_28 (by decide) ?_
    exact hret H locs ls 29 _ _ hw ⟨rfl, h⟩ rfl dX7_at_29
  have h := h.2 c1
  refine lv_iload_n hx hb dX7_at_10 rfl (lv_at hl 0 rfl) ?_
  refine lv_aload_n hx hb dX7_at_11 rfl (lv_at hl 1 rfl) ?_
  refine gf_X7_15 hx hb ht hown hK hw (Or.inl hk0) dX7_at_12 ?_
  refine t_alen hx hb hK hw (ka_2 hk0) dX7_at_15 ?_
  refine lv_icmp_ge (tgt := 28) hx hb dX7_at_16 (by decide) (fun c2 => ?_) (fun c2 => ?_)
  · have h := h.1 c2
    refine lv_iconst (v := (0 : Int32)) hx hb dX7_at_28 (by decide) ?_
    exact hret H locs ls 29 _ _ hw ⟨rfl, h⟩ rfl dX7_at_29
  have h := h.2 c2
  refine lv_aload_n hx hb dX7_at_19 rfl (lv_at hl 1 rfl) ?_
  refine gf_X7_15 hx hb ht hown hK hw (Or.inl hk0) dX7_at_20 ?_
  refine lv_iload_n hx hb dX7_at_23 rfl (lv_at hl 0 rfl) ?_
  obtain ⟨z3, h⟩ := h
  refine t_iald hx hb hK hw (ka_2 hk0) z3 dX7_at_24 ?_
  refine lv_goto (tgt := 29) hx hb dX7_at_25 (by decide) ?_
  exact hret H locs ls 29 _ _ hw ⟨rfl, h⟩ rfl dX7_at_29
set_option maxHeartbeats 4000000 in
set_option maxRecDepth 100000 in
theorem c_X7_at_5 {l : Launch} {D : va_G} {ad : Nat → Nat} {cI cM : ClassId} (k0 : Nat) (hk0 : kd k0 = 5) (μ : TMem) (sz : Nat) (a1 : Int32) (a2 : Int32) {Q : Int32 → Prop} (h : wp_X7_at k0 μ a1 a2 Q) : TMi l yX7_at (.code yX7_at cX7_at 4 (Option.some Jvm.ClassFile.FieldType.int)) 0 [.ref (ad k0), .int a1, .int a2] D ad cI cM sz μ (fun r μ1 => μ1 = μ ∧ Q r) := by
  refine T_meti (by decide +kernel) (Nat.le_of_ble_eq_true rfl) ?_
  intro p e s m below meth c Z ls hx hb hml hown ht hN hK hw hret hl
  have hl : lv_has ls 4 [(0, .ref (ad k0)), (1, .int a1), (2, .int a2)] := hl
  generalize s.heap = H at hw ⊢
  generalize ([] : List Loc) = locs at hw ⊢
  change (((a1 * (3 : Int32)) + a2) < 0 → (Q (0 : Int32))) ∧ (¬ ((a1 * (3 : Int32)) + a2) < 0 → (((nI (tl (k0 + 1))) ≤ ((a1 * (3 : Int32)) + a2) → (Q (0 : Int32))) ∧ (¬ (nI (tl (k0 + 1))) ≤ ((a1 * (3 : Int32)) + a2) → (vp_in ((a1 * (3 : Int32)) + a2) (tl (k0 + 1)) ∧ (Q (μ (k0 + 1) ((a1 * (3 : Int32)) + a2).toNatClampNeg)))))) at h
  refine lv_iload_n hx hb dX7_at_0 rfl (lv_at hl 1 rfl) ?_
  refine lv_iconst (v := (3 : Int32)) hx hb dX7_at_1 (by decide) ?_
  refine lv_imul hx hb dX7_at_2 ?_
  refine lv_iload_n hx hb dX7_at_3 rfl (lv_at hl 2 rfl) ?_
  refine lv_iadd hx hb dX7_at_4 ?_
  refine lv_istore_n (lv' := [(3, .int ((a1 * (3 : Int32)) + a2)), (0, .ref (ad k0)), (1, .int a1), (2, .int a2)]) hx hb dX7_at_5 rfl hl (by decide) rfl (fun ls hl => ?_)
  refine lv_iload_n hx hb dX7_at_6 rfl (lv_at hl 0 rfl) ?_
  refine lv_if_lt (tgt := 28) hx hb dX7_at_7 (by decide) (fun c1 => ?_) (fun c1 => ?_)
  · have h := h.1 c1
    refine lv_iconst (v := (0 : Int32)) hx hb dX7_at_28 (by decide) ?_
    exact hret H locs ls 29 _ _ hw ⟨rfl, h⟩ rfl dX7_at_29
  have h := h.2 c1
  refine lv_iload_n hx hb dX7_at_10 rfl (lv_at hl 0 rfl) ?_
  refine lv_aload_n hx hb dX7_at_11 rfl (lv_at hl 1 rfl) ?_
  refine gf_X7_15 hx hb ht hown hK hw (Or.inr hk0) dX7_at_12 ?_
  refine t_alen hx hb hK hw (ka_5 hk0) dX7_at_15 ?_
  refine lv_icmp_ge (tgt := 28) hx hb dX7_at_16 (by decide) (fun c2 => ?_) (fun c2 => ?_)
  · have h := h.1 c2
    refine lv_iconst (v := (0 : Int32)) hx hb dX7_at_28 (by decide) ?_
    exact hret H locs ls 29 _ _ hw ⟨rfl, h⟩ rfl dX7_at_29
  have h := h.2 c2
  refine lv_aload_n hx hb dX7_at_19 rfl (lv_at hl 1 rfl) ?_
  refine gf_X7_15 hx hb ht hown hK hw (Or.inr hk0) dX7_at_20 ?_
  refine lv_iload_n hx hb dX7_at_23 rfl (lv_at hl 0 rfl) ?_
  obtain ⟨z3, h⟩ := h
  refine t_iald hx hb hK hw (ka_5 hk0) z3 dX7_at_24 ?_
  refine lv_goto (tgt := 29) hx hb dX7_at_25 (by decide) ?_
  exact hret H locs ls 29 _ _ hw ⟨rfl, h⟩ rfl dX7_at_29
def wp_X7_put (k0 : Nat) (μ : TMem) (a1 : Int32) (a2 : Int32) (a3 : Int32) (Q : TMem → Prop) : Prop :=
  (((a1 * (3 : Int32)) + a2) < 0 → (Q μ)) ∧ (¬ ((a1 * (3 : Int32)) + a2) < 0 → (((nI (tl (k0 + 1))) ≤ ((a1 * (3 : Int32)) + a2) → (Q μ)) ∧ (¬ (nI (tl (k0 + 1))) ≤ ((a1 * (3 : Int32)) + a2) → (vp_in ((a1 * (3 : Int32)) + a2) (tl (k0 + 1)) ∧ (Q (tms μ (k0 + 1) ((a1 * (3 : Int32)) + a2).toNatClampNeg a3))))))
set_option maxHeartbeats 4000000 in
set_option maxRecDepth 100000 in
theorem c_X7_put_2 {l : Launch} {D : va_G} {ad : Nat → Nat} {cI cM : ClassId} (k0 : Nat) (hk0 : kd k0 = 2) (μ : TMem) (sz : Nat) (a1 : Int32) (a2 : Int32) (a3 : Int32) {Q : TMem → Prop} (h : wp_X7_put k0 μ a1 a2 a3 Q) : TMv l yX7_put (.code yX7_put cX7_put 5 (Option.none : Option Jvm.ClassFile.FieldType)) 0 [.ref (ad k0), .int a1, .int a2, .int a3] D ad cI cM sz μ Q := by
  refine T_metv (by decide +kernel) (Nat.le_of_ble_eq_true rfl) ?_
  intro p e s m below meth c Z ls hx hb hml hown ht hN hK hw hret hl
  have hl : lv_has ls 5 [(0, .ref (ad k0)), (1, .int a1), (2, .int a2), (3, .int a3)] := hl
  generalize s.heap = H at hw ⊢
  generalize ([] : List Loc) = locs at hw ⊢
  change (((a1 * (3 : Int32)) + a2) < 0 → (Q μ)) ∧ (¬ ((a1 * (3 : Int32)) + a2) < 0 → (((nI (tl (k0 + 1))) ≤ ((a1 * (3 : Int32)) + a2) → (Q μ)) ∧ (¬ (nI (tl (k0 + 1))) ≤ ((a1 * (3 : Int32)) + a2) → (vp_in ((a1 * (3 : Int32)) + a2) (tl (k0 + 1)) ∧ (Q (tms μ (k0 + 1) ((a1 * (3 : Int32)) + a2).toNatClampNeg a3)))))) at h
  refine lv_iload_n hx hb dX7_put_0 rfl (lv_at hl 1 rfl) ?_
  refine lv_iconst (v := (3 : Int32)) hx hb dX7_put_1 (by decide) ?_
  refine lv_imul hx hb dX7_put_2 ?_
  refine lv_iload_n hx hb dX7_put_3 rfl (lv_at hl 2 rfl) ?_
  refine lv_iadd hx hb dX7_put_4 ?_
  refine lv_istore (lv' := [(4, .int ((a1 * (3 : Int32)) + a2)), (0, .ref (ad k0)), (1, .int a1), (2, .int a2), (3, .int a3)]) hx hb dX7_put_5 hl (by decide) rfl (fun ls hl => ?_)
  refine lv_iload hx hb dX7_put_7 (lv_at hl 0 rfl) ?_
  refine lv_if_lt (tgt := 30) hx hb dX7_put_9 (by decide) (fun c1 => ?_) (fun c1 => ?_)
  · have h := h.1 c1
    exact hret H locs ls 30 _ hw h dX7_put_30
  have h := h.2 c1
  refine lv_iload hx hb dX7_put_12 (lv_at hl 0 rfl) ?_
  refine lv_aload_n hx hb dX7_put_14 rfl (lv_at hl 1 rfl) ?_
  refine gf_X7_15 hx hb ht hown hK hw (Or.inl hk0) dX7_put_15 ?_
  refine t_alen hx hb hK hw (ka_2 hk0) dX7_put_18 ?_
  refine lv_icmp_ge (tgt := 30) hx hb dX7_put_19 (by decide) (fun c2 => ?_) (fun c2 => ?_)
  · have h := h.1 c2
    exact hret H locs ls 30 _ hw h dX7_put_30
  have h := h.2 c2
  refine lv_aload_n hx hb dX7_put_22 rfl (lv_at hl 1 rfl) ?_
  refine gf_X7_15 hx hb ht hown hK hw (Or.inl hk0) dX7_put_23 ?_
  refine lv_iload hx hb dX7_put_26 (lv_at hl 0 rfl) ?_
  refine lv_iload_n hx hb dX7_put_28 rfl (lv_at hl 4 rfl) ?_
  obtain ⟨z3, h⟩ := h
  refine t_iast hx hb hK hw (ka_2 hk0) z3 dX7_put_29 (fun H locs hw => ?_)
  exact hret H locs ls 30 _ hw h dX7_put_30
set_option maxHeartbeats 4000000 in
set_option maxRecDepth 100000 in
theorem c_X7_put_5 {l : Launch} {D : va_G} {ad : Nat → Nat} {cI cM : ClassId} (k0 : Nat) (hk0 : kd k0 = 5) (μ : TMem) (sz : Nat) (a1 : Int32) (a2 : Int32) (a3 : Int32) {Q : TMem → Prop} (h : wp_X7_put k0 μ a1 a2 a3 Q) : TMv l yX7_put (.code yX7_put cX7_put 5 (Option.none : Option Jvm.ClassFile.FieldType)) 0 [.ref (ad k0), .int a1, .int a2, .int a3] D ad cI cM sz μ Q := by
  refine T_metv (by decide +kernel) (Nat.le_of_ble_eq_true rfl) ?_
  intro p e s m below meth c Z ls hx hb hml hown ht hN hK hw hret hl
  have hl : lv_has ls 5 [(0, .ref (ad k0)), (1, .int a1), (2, .int a2), (3, .int a3)] := hl
  generalize s.heap = H at hw ⊢
  generalize ([] : List Loc) = locs at hw ⊢
  change (((a1 * (3 : Int32)) + a2) < 0 → (Q μ)) ∧ (¬ ((a1 * (3 : Int32)) + a2) < 0 → (((nI (tl (k0 + 1))) ≤ ((a1 * (3 : Int32)) + a2) → (Q μ)) ∧ (¬ (nI (tl (k0 + 1))) ≤ ((a1 * (3 : Int32)) + a2) → (vp_in ((a1 * (3 : Int32)) + a2) (tl (k0 + 1)) ∧ (Q (tms μ (k0 + 1) ((a1 * (3 : Int32)) + a2).toNatClampNeg a3)))))) at h
  refine lv_iload_n hx hb dX7_put_0 rfl (lv_at hl 1 rfl) ?_
  refine lv_iconst (v := (3 : Int32)) hx hb dX7_put_1 (by decide) ?_
  refine lv_imul hx hb dX7_put_2 ?_
  refine lv_iload_n hx hb dX7_put_3 rfl (lv_at hl 2 rfl) ?_
  refine lv_iadd hx hb dX7_put_4 ?_
  refine lv_istore (lv' := [(4, .int ((a1 * (3 : Int32)) + a2)), (0, .ref (ad k0)), (1, .int a1), (2, .int a2), (3, .int a3)]) hx hb dX7_put_5 hl (by decide) rfl (fun ls hl => ?_)
  refine lv_iload hx hb dX7_put_7 (lv_at hl 0 rfl) ?_
  refine lv_if_lt (tgt := 30) hx hb dX7_put_9 (by decide) (fun c1 => ?_) (fun c1 => ?_)
  · have h := h.1 c1
    exact hret H locs ls 30 _ hw h dX7_put_30
  have h := h.2 c1
  refine lv_iload hx hb dX7_put_12 (lv_at hl 0 rfl) ?_
  refine lv_aload_n hx hb dX7_put_14 rfl (lv_at hl 1 rfl) ?_
  refine gf_X7_15 hx hb ht hown hK hw (Or.inr hk0) dX7_put_15 ?_
  refine t_alen hx hb hK hw (ka_5 hk0) dX7_put_18 ?_
  refine lv_icmp_ge (tgt := 30) hx hb dX7_put_19 (by decide) (fun c2 => ?_) (fun c2 => ?_)
  · have h := h.1 c2
    exact hret H locs ls 30 _ hw h dX7_put_30
  have h := h.2 c2
  refine lv_aload_n hx hb dX7_put_22 rfl (lv_at hl 1 rfl) ?_
  refine gf_X7_15 hx hb ht hown hK hw (Or.inr hk0) dX7_put_23 ?_
  refine lv_iload hx hb dX7_put_26 (lv_at hl 0 rfl) ?_
  refine lv_iload_n hx hb dX7_put_28 rfl (lv_at hl 4 rfl) ?_
  obtain ⟨z3, h⟩ := h
  refine t_iast hx hb hK hw (ka_5 hk0) z3 dX7_put_29 (fun H locs hw => ?_)
  exact hret H locs ls 30 _ hw h dX7_put_30
def wpl_X2_becomePlain_33 (k0 : Nat) (k1 : Nat) (v7 : Int32) (K58 : TMem → Prop) : Nat → Int32 → TMem → Prop
  | 0, _, _ => False
  | n + 1, v6, μ8 =>
    ((3 : Int32) ≤ v6 → (K58 μ8)) ∧ (¬ (3 : Int32) ≤ v6 → (wp_X7_at k1 μ8 v7 v6 (fun (r10 : Int32) => wp_X7_put k0 μ8 v7 v6 ((1 : Int32) <<< (r10 &&& 31)) (fun (μ13 : TMem) => wpl_X2_becomePlain_33 k0 k1 v7 K58 n (v6 + (1 : Int32)) μ13))))
def wpl_X2_becomePlain_23 (k0 : Nat) (k1 : Nat) (Q : TMem → Prop) : Nat → Int32 → TMem → Prop
  | 0, _, _ => False
  | n + 1, v2, μ3 =>
    ((μ3 k0 1) ≤ v2 → (Q μ3)) ∧ (¬ (μ3 k0 1) ≤ v2 → (∃ n4x, wpl_X2_becomePlain_33 k0 k1 v2 (fun (μ15 : TMem) => wpl_X2_becomePlain_23 k0 k1 Q n (v2 + (1 : Int32)) μ15) n4x (0 : Int32) μ3))
def wp_X2_becomePlain (k0 : Nat) (k1 : Nat) (μ : TMem) (Q : TMem → Prop) : Prop :=
  ∃ n0x, wpl_X2_becomePlain_23 k0 k1 Q n0x (0 : Int32) (tms (tms (tms μ k0 1 (μ k1 1)) k0 3 (1 : Int32)) k0 2 ((tms (tms μ k0 1 (μ k1 1)) k0 3 (1 : Int32)) k1 2))
set_option maxHeartbeats 4000000 in
set_option maxRecDepth 100000 in
theorem c_X2_becomePlain {l : Launch} {D : va_G} {ad : Nat → Nat} {cI cM : ClassId} (k0 : Nat) (hk0 : kd k0 = 2) (k1 : Nat) (hk1 : kd k1 = 5) (μ : TMem) (sz : Nat)  {Q : TMem → Prop} (h : wp_X2_becomePlain k0 k1 μ Q) : TMv l yX2_becomePlain (.code yX2_becomePlain cX2_becomePlain 4 (Option.none : Option Jvm.ClassFile.FieldType)) 1 [.ref (ad k0), .ref (ad k1)] D ad cI cM sz μ Q := by
  refine T_metv (by decide +kernel) (Nat.le_of_ble_eq_true rfl) ?_
  intro p e s m below meth c Z ls hx hb hml hown ht hN hK hw hret hl
  have hl : lv_has ls 4 [(0, .ref (ad k0)), (1, .ref (ad k1))] := hl
  generalize s.heap = H at hw ⊢
  generalize ([] : List Loc) = locs at hw ⊢
  change ∃ n0x, wpl_X2_becomePlain_23 k0 k1 Q n0x (0 : Int32) (tms (tms (tms μ k0 1 (μ k1 1)) k0 3 (1 : Int32)) k0 2 ((tms (tms μ k0 1 (μ k1 1)) k0 3 (1 : Int32)) k1 2)) at h
  refine lv_aload_n hx hb dX2_becomePlain_0 rfl (lv_at hl 0 rfl) ?_
  refine lv_aload_n hx hb dX2_becomePlain_1 rfl (lv_at hl 1 rfl) ?_
  refine gf_X2_57 hx hb ht hown hK hw hk1 dX2_becomePlain_2 ?_
  refine pgf_X2_15 hx hb ht hown hK hw hk0 dX2_becomePlain_5 (fun H locs hw => ?_)
  refine lv_aload_n hx hb dX2_becomePlain_8 rfl (lv_at hl 0 rfl) ?_
  refine lv_iconst (v := (1 : Int32)) hx hb dX2_becomePlain_9 (by decide) ?_
  refine pgf_X2_9 hx hb ht hown hK hw hk0 dX2_becomePlain_10 (fun H locs hw => ?_)
  refine lv_aload_n hx hb dX2_becomePlain_13 rfl (lv_at hl 0 rfl) ?_
  refine lv_aload_n hx hb dX2_becomePlain_14 rfl (lv_at hl 1 rfl) ?_
  refine gf_X2_60 hx hb ht hown hK hw hk1 dX2_becomePlain_15 ?_
  refine pgf_X2_18 hx hb ht hown hK hw hk0 dX2_becomePlain_18 (fun H locs hw => ?_)
  refine lv_iconst (v := (0 : Int32)) hx hb dX2_becomePlain_21 (by decide) ?_
  refine lv_istore_n (lv' := [(2, .int (0 : Int32)), (0, .ref (ad k0)), (1, .ref (ad k1))]) hx hb dX2_becomePlain_22 rfl hl (by decide) rfl (fun ls hl => ?_)
  obtain ⟨n16, h⟩ := h
  have L0 : ∀ (n : Nat) (v2 : Int32) (μ3 : TMem) (H : Heap) (locs : List Loc) (ls : Array Slot), TW D ad cI cM s μ3 H locs → lv_has ls 4 [(2, .int v2), (0, .ref (ad k0)), (1, .ref (ad k1))] → wpl_X2_becomePlain_23 k0 k1 Q n v2 μ3 → W p l e (RM 1) s m #[.ref (ad k0), .ref (ad k1)] below meth c H locs 0 0 Z (F0 m 23 ls []) := by
    intro n
    induction n with
    | zero => intro v2 μ3 H locs ls hw hl h; exact False.elim h
    | succ n ih0 =>
      intro v2 μ3 H locs ls hw hl h
      change ((μ3 k0 1) ≤ v2 → (Q μ3)) ∧ (¬ (μ3 k0 1) ≤ v2 → (∃ n4x, wpl_X2_becomePlain_33 k0 k1 v2 (fun (μ15 : TMem) => wpl_X2_becomePlain_23 k0 k1 Q n (v2 + (1 : Int32)) μ15) n4x (0 : Int32) μ3)) at h
      refine lv_iload_n hx hb dX2_becomePlain_23 rfl (lv_at hl 0 rfl) ?_
      refine lv_aload_n hx hb dX2_becomePlain_24 rfl (lv_at hl 1 rfl) ?_
      refine gf_X2_15 hx hb ht hown hK hw hk0 dX2_becomePlain_25 ?_
      refine lv_icmp_ge (tgt := 64) hx hb dX2_becomePlain_28 (by decide) (fun c4 => ?_) (fun c4 => ?_)
      · have h := h.1 c4
        exact hret H locs ls 64 _ hw h dX2_becomePlain_64
      have h := h.2 c4
      refine lv_iconst (v := (0 : Int32)) hx hb dX2_becomePlain_31 (by decide) ?_
      refine lv_istore_n (lv' := [(3, .int (0 : Int32)), (2, .int v2), (0, .ref (ad k0)), (1, .ref (ad k1))]) hx hb dX2_becomePlain_32 rfl hl (by decide) rfl (fun ls hl => ?_)
      obtain ⟨n14, h⟩ := h
      have L4 : ∀ (v7 : Int32) (K58 : TMem → Prop), (∀ (μ8 : TMem) (H : Heap) (locs : List Loc) (ls : Array Slot), TW D ad cI cM s μ8 H locs → lv_has ls 4 [(2, .int v7), (0, .ref (ad k0)), (1, .ref (ad k1))] → K58 μ8 → W p l e (RM 1) s m #[.ref (ad k0), .ref (ad k1)] below meth c H locs 0 0 Z (F0 m 58 ls [])) → ∀ (n : Nat) (v6 : Int32) (μ8 : TMem) (H : Heap) (locs : List Loc) (ls : Array Slot), TW D ad cI cM s μ8 H locs → lv_has ls 4 [(3, .int v6), (2, .int v7), (0, .ref (ad k0)), (1, .ref (ad k1))] → wpl_X2_becomePlain_33 k0 k1 v7 K58 n v6 μ8 → W p l e (RM 1) s m #[.ref (ad k0), .ref (ad k1)] below meth c H locs 0 0 Z (F0 m 33 ls []) := by
        intro v7 K58 hK58
        intro n
        induction n with
        | zero => intro v6 μ8 H locs ls hw hl h; exact False.elim h
        | succ n ih4 =>
          intro v6 μ8 H locs ls hw hl h
          change ((3 : Int32) ≤ v6 → (K58 μ8)) ∧ (¬ (3 : Int32) ≤ v6 → (wp_X7_at k1 μ8 v7 v6 (fun (r10 : Int32) => wp_X7_put k0 μ8 v7 v6 ((1 : Int32) <<< (r10 &&& 31)) (fun (μ13 : TMem) => wpl_X2_becomePlain_33 k0 k1 v7 K58 n (v6 + (1 : Int32)) μ13)))) at h
          refine lv_iload_n hx hb dX2_becomePlain_33 rfl (lv_at hl 0 rfl) ?_
          refine lv_iconst (v := (3 : Int32)) hx hb dX2_becomePlain_34 (by decide) ?_
          refine lv_icmp_ge (tgt := 58) hx hb dX2_becomePlain_35 (by decide) (fun c9 => ?_) (fun c9 => ?_)
          · have h := h.1 c9
            exact hK58 μ8 H locs ls hw (lv_sub hl [1, 2, 3] rfl) h
          have h := h.2 c9
          refine lv_aload_n hx hb dX2_becomePlain_38 rfl (lv_at hl 2 rfl) ?_
          refine lv_iload_n hx hb dX2_becomePlain_39 rfl (lv_at hl 1 rfl) ?_
          refine lv_iload_n hx hb dX2_becomePlain_40 rfl (lv_at hl 0 rfl) ?_
          refine lv_iconst (v := (1 : Int32)) hx hb dX2_becomePlain_41 (by decide) ?_
          refine lv_aload_n hx hb dX2_becomePlain_42 rfl (lv_at hl 3 rfl) ?_
          refine lv_iload_n hx hb dX2_becomePlain_43 rfl (lv_at hl 1 rfl) ?_
          refine lv_iload_n hx hb dX2_becomePlain_44 rfl (lv_at hl 0 rfl) ?_
          refine T_calli hw (va_runU (own := "Leastreader$Machine") (As := [.int v7, .int v6]) (rest := [.int (1 : Int32), .int v6, .int v7, .ref (ad k0)]) ⟨hx, hb, hml, hown, ht⟩ (c_X7_at_5 k1 hk1 μ8 H.size v7 v6 h) (va_cwU (owner := "Leastreader$Table") 2 ht (G_U q_451 q_452 q_453 q_416 q_47 q_417) rfl rfl rfl rfl hd_0 ⟨Nat.le_of_ble_eq_true rfl, Nat.le_of_ble_eq_true rfl⟩) ⟨TB.blind, (T_recv hK hw (kd_of hk1 (by decide)) (ent_5 hk1) cl_5), TB.pre hK hN hw⟩ rfl rfl hl.1 rfl (lv_room (Nat.le_of_ble_eq_true rfl)) dX2_becomePlain_45 ⟨Nat.le_of_ble_eq_true rfl, Nat.le_of_ble_eq_true rfl⟩) (fun r10 μ11 H locs h hw => ?_)
          obtain ⟨e12, h⟩ := h
          rw [e12] at hw
          refine lv_ishl hx hb dX2_becomePlain_48 ?_
          refine T_callv hw (va_runU (own := "Leastreader$Machine") (As := [.int v7, .int v6, .int ((1 : Int32) <<< (r10 &&& 31))]) (rest := []) ⟨hx, hb, hml, hown, ht⟩ (c_X7_put_2 k0 hk0 μ8 H.size v7 v6 ((1 : Int32) <<< (r10 &&& 31)) h) (va_cwU (owner := "Leastreader$Table") 3 ht (G_U q_444 q_445 q_446 q_430 q_47 q_431) rfl rfl rfl rfl hd_1 ⟨Nat.le_of_ble_eq_true rfl, Nat.le_of_ble_eq_true rfl⟩) ⟨TB.blind, (T_recv hK hw (kd_of hk0 (by decide)) (ent_2 hk0) cl_2), TB.pre hK hN hw⟩ rfl rfl hl.1 rfl (lv_room (Nat.le_of_ble_eq_true rfl)) dX2_becomePlain_49 ⟨Nat.le_of_ble_eq_true rfl, Nat.le_of_ble_eq_true rfl⟩) (fun μ13 H locs h hw => ?_)
          refine lv_iinc (v := (v6 + (1 : Int32))) (lv' := [(3, .int (v6 + (1 : Int32))), (2, .int v7), (0, .ref (ad k0)), (1, .ref (ad k1))]) hx hb dX2_becomePlain_52 hl (k := 0) rfl rfl (by decide) rfl (fun ls hl => ?_)
          refine lv_goto (tgt := 33) hx hb dX2_becomePlain_55 (by decide) ?_
          exact ih4 (v6 + (1 : Int32)) μ13 H locs ls hw (lv_sub hl [0, 1, 2, 3] rfl) h
      refine L4 v2 _ ?_ n14 (0 : Int32) μ3 H locs ls hw (lv_sub hl [0, 1, 2, 3] rfl) h
      intro μ15 H locs ls hw hl h
      refine lv_iinc (v := (v2 + (1 : Int32))) (lv' := [(2, .int (v2 + (1 : Int32))), (0, .ref (ad k0)), (1, .ref (ad k1))]) hx hb dX2_becomePlain_58 hl (k := 0) rfl rfl (by decide) rfl (fun ls hl => ?_)
      refine lv_goto (tgt := 23) hx hb dX2_becomePlain_61 (by decide) ?_
      exact ih0 (v2 + (1 : Int32)) μ15 H locs ls hw (lv_sub hl [0, 1, 2] rfl) h
  exact L0 n16 (0 : Int32) (tms (tms (tms μ k0 1 (μ k1 1)) k0 3 (1 : Int32)) k0 2 ((tms (tms μ k0 1 (μ k1 1)) k0 3 (1 : Int32)) k1 2)) H locs ls hw (lv_sub hl [0, 1, 2] rfl) h
def wp_X9_becomeMade (k1 : Nat) (μ : TMem) (Q : Int32 → TMem → Prop) : Prop :=
  ((μ 57 1) ≤ (7 : Int32) → (wp_X2_becomePlain k1 57 μ (fun (μ2 : TMem) => wp_X9_acted μ2 (μ2 57 1) (fun (r4 : Int32) (μ3 : TMem) => Q r4 μ3)))) ∧ (¬ (μ 57 1) ≤ (7 : Int32) → (wp_X9_refuse μ (fun (r6 : Int32) (μ5 : TMem) => Q r6 μ5)))
set_option maxHeartbeats 4000000 in
set_option maxRecDepth 100000 in
theorem c_X9_becomeMade {l : Launch} {D : va_G} {ad : Nat → Nat} {cI cM : ClassId} (k1 : Nat) (hk1 : kd k1 = 2) (μ : TMem) (sz : Nat)  {Q : Int32 → TMem → Prop} (h : wp_X9_becomeMade k1 μ Q) : TMi l yX9_becomeMade (.code yX9_becomeMade cX9_becomeMade 2 (Option.some Jvm.ClassFile.FieldType.int)) 2 [.ref (ad 0), .ref (ad k1)] D ad cI cM sz μ Q := by
  refine T_meti (by decide +kernel) (Nat.le_of_ble_eq_true rfl) ?_
  intro p e s m below meth c Z ls hx hb hml hown ht hN hK hw hret hl
  have hl : lv_has ls 2 [(0, .ref (ad 0)), (1, .ref (ad k1))] := hl
  generalize s.heap = H at hw ⊢
  generalize ([] : List Loc) = locs at hw ⊢
  change ((μ 57 1) ≤ (7 : Int32) → (wp_X2_becomePlain k1 57 μ (fun (μ2 : TMem) => wp_X9_acted μ2 (μ2 57 1) (fun (r4 : Int32) (μ3 : TMem) => Q r4 μ3)))) ∧ (¬ (μ 57 1) ≤ (7 : Int32) → (wp_X9_refuse μ (fun (r6 : Int32) (μ5 : TMem) => Q r6 μ5))) at h
  refine lv_aload_n hx hb dX9_becomeMade_0 rfl (lv_at hl 0 rfl) ?_
  refine gf_X9_66 hx hb ht hown hK hw rfl dX9_becomeMade_1 ?_
  refine gf_X9_190 hx hb ht hown hK hw rfl dX9_becomeMade_4 ?_
  refine lv_bipush (v := (7 : Int32)) hx hb dX9_becomeMade_7 (by decide) ?_
  refine lv_icmp_le (tgt := 17) hx hb dX9_becomeMade_9 (by decide) (fun c1 => ?_) (fun c1 => ?_)
  · have h := h.1 c1
    refine lv_aload_n hx hb dX9_becomeMade_17 rfl (lv_at hl 1 rfl) ?_
    refine lv_aload_n hx hb dX9_becomeMade_18 rfl (lv_at hl 0 rfl) ?_
    refine gf_X9_66 hx hb ht hown hK hw rfl dX9_becomeMade_19 ?_
    refine T_callv hw (va_runV (own := "Leastreader") (As := [.ref (ad 57)]) (rest := []) ⟨hx, hb, hml, hown, ht⟩ (c_X2_becomePlain k1 hk1 57 rfl μ H.size h) (cwV 1 ht (G_V q_527 q_448 q_449 q_48 q_450) rfl rfl rfl ⟨rfl, hd_2⟩ ⟨Nat.le_of_ble_eq_true rfl, Nat.le_of_ble_eq_true rfl⟩) ⟨TB.blind, (T_recv hK hw (kd_of hk1 (by decide)) (ent_2 hk1) cl_2), TB.pre hK hN hw⟩ rfl rfl hl.1 rfl (lv_room (Nat.le_of_ble_eq_true rfl)) dX9_becomeMade_22 ⟨Nat.le_of_ble_eq_true rfl, Nat.le_of_ble_eq_true rfl⟩) (fun μ2 H locs h hw => ?_)
    refine lv_aload_n hx hb dX9_becomeMade_25 rfl (lv_at hl 0 rfl) ?_
    refine lv_aload_n hx hb dX9_becomeMade_26 rfl (lv_at hl 0 rfl) ?_
    refine gf_X9_66 hx hb ht hown hK hw rfl dX9_becomeMade_27 ?_
    refine gf_X9_190 hx hb ht hown hK hw rfl dX9_becomeMade_30 ?_
    refine T_calli hw (va_runV (own := "Leastreader") (As := [.int (μ2 57 1)]) (rest := []) ⟨hx, hb, hml, hown, ht⟩ (c_X9_acted μ2 H.size (μ2 57 1) h) (cwV 1 ht (G_V q_624 q_626 q_13 q_46 q_627) rfl rfl rfl ⟨rfl, hd_3⟩ ⟨Nat.le_of_ble_eq_true rfl, Nat.le_of_ble_eq_true rfl⟩) ⟨TB.blind, (T_recv hK hw (kd_of rfl (by decide)) (ent_8 rfl) cl_8), TB.pre hK hN hw⟩ rfl rfl hl.1 rfl (lv_room (Nat.le_of_ble_eq_true rfl)) dX9_becomeMade_33 ⟨Nat.le_of_ble_eq_true rfl, Nat.le_of_ble_eq_true rfl⟩) (fun r4 μ3 H locs h hw => ?_)
    exact hret H locs ls 36 _ _ hw h rfl dX9_becomeMade_36
  have h := h.2 c1
  refine lv_aload_n hx hb dX9_becomeMade_12 rfl (lv_at hl 0 rfl) ?_
  refine T_calli hw (va_runV (own := "Leastreader") (As := []) (rest := []) ⟨hx, hb, hml, hown, ht⟩ (c_X9_refuse μ H.size h) (cwV 0 ht (G_V q_732 q_734 q_16 q_46 q_735) rfl rfl rfl ⟨rfl, hd_4⟩ ⟨Nat.le_of_ble_eq_true rfl, Nat.le_of_ble_eq_true rfl⟩) ⟨TB.blind, (T_recv hK hw (kd_of rfl (by decide)) (ent_8 rfl) cl_8), TB.pre hK hN hw⟩ rfl rfl hl.1 rfl (lv_room (Nat.le_of_ble_eq_true rfl)) dX9_becomeMade_13 ⟨Nat.le_of_ble_eq_true rfl, Nat.le_of_ble_eq_true rfl⟩) (fun r6 μ5 H locs h hw => ?_)
  exact hret H locs ls 16 _ _ hw h rfl dX9_becomeMade_16
def wp_X6_put (k0 : Nat) (μ : TMem) (a1 : Int32) (a2 : Int32) (Q : TMem → Prop) : Prop :=
  (a1 < 0 → (Q μ)) ∧ (¬ a1 < 0 → (((nI (tl (k0 + 1))) ≤ a1 → (Q μ)) ∧ (¬ (nI (tl (k0 + 1))) ≤ a1 → (vp_in a1 (tl (k0 + 1)) ∧ (Q (tms μ (k0 + 1) a1.toNatClampNeg a2))))))
set_option maxHeartbeats 4000000 in
set_option maxRecDepth 100000 in
theorem c_X6_put {l : Launch} {D : va_G} {ad : Nat → Nat} {cI cM : ClassId} (k0 : Nat) (hk0 : kd k0 = 6) (μ : TMem) (sz : Nat) (a1 : Int32) (a2 : Int32) {Q : TMem → Prop} (h : wp_X6_put k0 μ a1 a2 Q) : TMv l yX6_put (.code yX6_put cX6_put 3 (Option.none : Option Jvm.ClassFile.FieldType)) 0 [.ref (ad k0), .int a1, .int a2] D ad cI cM sz μ Q := by
  refine T_metv (by decide +kernel) (Nat.le_of_ble_eq_true rfl) ?_
  intro p e s m below meth c Z ls hx hb hml hown ht hN hK hw hret hl
  have hl : lv_has ls 3 [(0, .ref (ad k0)), (1, .int a1), (2, .int a2)] := hl
  generalize s.heap = H at hw ⊢
  generalize ([] : List Loc) = locs at hw ⊢
  change (a1 < 0 → (Q μ)) ∧ (¬ a1 < 0 → (((nI (tl (k0 + 1))) ≤ a1 → (Q μ)) ∧ (¬ (nI (tl (k0 + 1))) ≤ a1 → (vp_in a1 (tl (k0 + 1)) ∧ (Q (tms μ (k0 + 1) a1.toNatClampNeg a2)))))) at h
  refine lv_iload_n hx hb dX6_put_0 rfl (lv_at hl 1 rfl) ?_
  refine lv_if_lt (tgt := 20) hx hb dX6_put_1 (by decide) (fun c1 => ?_) (fun c1 => ?_)
  · have h := h.1 c1
    exact hret H locs ls 20 _ hw h dX6_put_20
  have h := h.2 c1
  refine lv_iload_n hx hb dX6_put_4 rfl (lv_at hl 1 rfl) ?_
  refine lv_aload_n hx hb dX6_put_5 rfl (lv_at hl 0 rfl) ?_
  refine gf_X6_9 hx hb ht hown hK hw hk0 dX6_put_6 ?_
  refine t_alen hx hb hK hw (ka_6 hk0) dX6_put_9 ?_
  refine lv_icmp_ge (tgt := 20) hx hb dX6_put_10 (by decide) (fun c2 => ?_) (fun c2 => ?_)
  · have h := h.1 c2
    exact hret H locs ls 20 _ hw h dX6_put_20
  have h := h.2 c2
  refine lv_aload_n hx hb dX6_put_13 rfl (lv_at hl 0 rfl) ?_
  refine gf_X6_9 hx hb ht hown hK hw hk0 dX6_put_14 ?_
  refine lv_iload_n hx hb dX6_put_17 rfl (lv_at hl 1 rfl) ?_
  refine lv_iload_n hx hb dX6_put_18 rfl (lv_at hl 2 rfl) ?_
  obtain ⟨z3, h⟩ := h
  refine t_iast hx hb hK hw (ka_6 hk0) z3 dX6_put_19 (fun H locs hw => ?_)
  exact hret H locs ls 20 _ hw h dX6_put_20
def wp_X6_at (k0 : Nat) (μ : TMem) (a1 : Int32) (Q : Int32 → Prop) : Prop :=
  (a1 < 0 → (Q (0 : Int32))) ∧ (¬ a1 < 0 → (((nI (tl (k0 + 1))) ≤ a1 → (Q (0 : Int32))) ∧ (¬ (nI (tl (k0 + 1))) ≤ a1 → (vp_in a1 (tl (k0 + 1)) ∧ (Q (μ (k0 + 1) a1.toNatClampNeg))))))
set_option maxHeartbeats 4000000 in
set_option maxRecDepth 100000 in
theorem c_X6_at {l : Launch} {D : va_G} {ad : Nat → Nat} {cI cM : ClassId} (k0 : Nat) (hk0 : kd k0 = 6) (μ : TMem) (sz : Nat) (a1 : Int32) {Q : Int32 → Prop} (h : wp_X6_at k0 μ a1 Q) : TMi l yX6_at (.code yX6_at cX6_at 2 (Option.some Jvm.ClassFile.FieldType.int)) 0 [.ref (ad k0), .int a1] D ad cI cM sz μ (fun r μ1 => μ1 = μ ∧ Q r) := by
  refine T_meti (by decide +kernel) (Nat.le_of_ble_eq_true rfl) ?_
  intro p e s m below meth c Z ls hx hb hml hown ht hN hK hw hret hl
  have hl : lv_has ls 2 [(0, .ref (ad k0)), (1, .int a1)] := hl
  generalize s.heap = H at hw ⊢
  generalize ([] : List Loc) = locs at hw ⊢
  change (a1 < 0 → (Q (0 : Int32))) ∧ (¬ a1 < 0 → (((nI (tl (k0 + 1))) ≤ a1 → (Q (0 : Int32))) ∧ (¬ (nI (tl (k0 + 1))) ≤ a1 → (vp_in a1 (tl (k0 + 1)) ∧ (Q (μ (k0 + 1) a1.toNatClampNeg)))))) at h
  refine lv_iload_n hx hb dX6_at_0 rfl (lv_at hl 1 rfl) ?_
  refine lv_if_lt (tgt := 22) hx hb dX6_at_1 (by decide) (fun c1 => ?_) (fun c1 => ?_)
  · have h := h.1 c1
    refine lv_iconst (v := (0 : Int32)) hx hb dX6_at_22 (by decide) ?_
    exact hret H locs ls 23 _ _ hw ⟨rfl, h⟩ rfl dX6_at_23
  have h := h.2 c1
  refine lv_iload_n hx hb dX6_at_4 rfl (lv_at hl 1 rfl) ?_
  refine lv_aload_n hx hb dX6_at_5 rfl (lv_at hl 0 rfl) ?_
  refine gf_X6_9 hx hb ht hown hK hw hk0 dX6_at_6 ?_
  refine t_alen hx hb hK hw (ka_6 hk0) dX6_at_9 ?_
  refine lv_icmp_ge (tgt := 22) hx hb dX6_at_10 (by decide) (fun c2 => ?_) (fun c2 => ?_)
  · have h := h.1 c2
    refine lv_iconst (v := (0 : Int32)) hx hb dX6_at_22 (by decide) ?_
    exact hret H locs ls 23 _ _ hw ⟨rfl, h⟩ rfl dX6_at_23
  have h := h.2 c2
  refine lv_aload_n hx hb dX6_at_13 rfl (lv_at hl 0 rfl) ?_
  refine gf_X6_9 hx hb ht hown hK hw hk0 dX6_at_14 ?_
  refine lv_iload_n hx hb dX6_at_17 rfl (lv_at hl 1 rfl) ?_
  obtain ⟨z3, h⟩ := h
  refine t_iald hx hb hK hw (ka_6 hk0) z3 dX6_at_18 ?_
  refine lv_goto (tgt := 23) hx hb dX6_at_19 (by decide) ?_
  exact hret H locs ls 23 _ _ hw ⟨rfl, h⟩ rfl dX6_at_23
def wpl_X2_reach_5 (k0 : Nat) (μ : TMem) (v4 : Int32) (v5 : Int32) (Q : Int32 → Prop) : Nat → Int32 → Int32 → Prop
  | 0, _, _ => False
  | n + 1, v2, v3 =>
    ((μ k0 1) ≤ v2 → (Q v3)) ∧ (¬ (μ k0 1) ≤ v2 → (wp_X9_isIn v4 v2 (fun (r7 : Int32) => (r7 = 0 → (wpl_X2_reach_5 k0 μ v4 v5 Q n (v2 + (1 : Int32)) v3)) ∧ (¬ r7 = 0 → (wp_X7_at k0 μ v2 v5 (fun (r9 : Int32) => wpl_X2_reach_5 k0 μ v4 v5 Q n (v2 + (1 : Int32)) (v3 ||| r9)))))))
def wp_X2_reach (k0 : Nat) (μ : TMem) (a1 : Int32) (a2 : Int32) (Q : Int32 → Prop) : Prop :=
  ∃ n0x, wpl_X2_reach_5 k0 μ a1 a2 Q n0x (0 : Int32) (0 : Int32)
set_option maxHeartbeats 4000000 in
set_option maxRecDepth 100000 in
theorem c_X2_reach {l : Launch} {D : va_G} {ad : Nat → Nat} {cI cM : ClassId} (k0 : Nat) (hk0 : kd k0 = 2) (μ : TMem) (sz : Nat) (a1 : Int32) (a2 : Int32) {Q : Int32 → Prop} (h : wp_X2_reach k0 μ a1 a2 Q) : TMi l yX2_reach (.code yX2_reach cX2_reach 5 (Option.some Jvm.ClassFile.FieldType.int)) 1 [.ref (ad k0), .int a1, .int a2] D ad cI cM sz μ (fun r μ1 => μ1 = μ ∧ Q r) := by
  refine T_meti (by decide +kernel) (Nat.le_of_ble_eq_true rfl) ?_
  intro p e s m below meth c Z ls hx hb hml hown ht hN hK hw hret hl
  have hl : lv_has ls 5 [(0, .ref (ad k0)), (1, .int a1), (2, .int a2)] := hl
  generalize s.heap = H at hw ⊢
  generalize ([] : List Loc) = locs at hw ⊢
  change ∃ n0x, wpl_X2_reach_5 k0 μ a1 a2 Q n0x (0 : Int32) (0 : Int32) at h
  refine lv_iconst (v := (0 : Int32)) hx hb dX2_reach_0 (by decide) ?_
  refine lv_istore_n (lv' := [(3, .int (0 : Int32)), (0, .ref (ad k0)), (1, .int a1), (2, .int a2)]) hx hb dX2_reach_1 rfl hl (by decide) rfl (fun ls hl => ?_)
  refine lv_iconst (v := (0 : Int32)) hx hb dX2_reach_2 (by decide) ?_
  refine lv_istore (lv' := [(4, .int (0 : Int32)), (3, .int (0 : Int32)), (0, .ref (ad k0)), (1, .int a1), (2, .int a2)]) hx hb dX2_reach_3 hl (by decide) rfl (fun ls hl => ?_)
  obtain ⟨n12, h⟩ := h
  have L0 : ∀ (v4 : Int32) (v5 : Int32), ∀ (n : Nat) (v2 : Int32) (v3 : Int32) (H : Heap) (locs : List Loc) (ls : Array Slot), TW D ad cI cM s μ H locs → lv_has ls 5 [(4, .int v2), (3, .int v3), (0, .ref (ad k0)), (1, .int v4), (2, .int v5)] → wpl_X2_reach_5 k0 μ v4 v5 Q n v2 v3 → W p l e (RM 1) s m #[.ref (ad k0), .int a1, .int a2] below meth c H locs 0 0 Z (F0 m 5 ls []) := by
    intro v4 v5
    intro n
    induction n with
    | zero => intro v2 v3 H locs ls hw hl h; exact False.elim h
    | succ n ih0 =>
      intro v2 v3 H locs ls hw hl h
      change ((μ k0 1) ≤ v2 → (Q v3)) ∧ (¬ (μ k0 1) ≤ v2 → (wp_X9_isIn v4 v2 (fun (r7 : Int32) => (r7 = 0 → (wpl_X2_reach_5 k0 μ v4 v5 Q n (v2 + (1 : Int32)) v3)) ∧ (¬ r7 = 0 → (wp_X7_at k0 μ v2 v5 (fun (r9 : Int32) => wpl_X2_reach_5 k0 μ v4 v5 Q n (v2 + (1 : Int32)) (v3 ||| r9))))))) at h
      refine lv_iload hx hb dX2_reach_5 (lv_at hl 0 rfl) ?_
      refine lv_aload_n hx hb dX2_reach_7 rfl (lv_at hl 2 rfl) ?_
      refine gf_X2_15 hx hb ht hown hK hw hk0 dX2_reach_8 ?_
      refine lv_icmp_ge (tgt := 39) hx hb dX2_reach_11 (by decide) (fun c6 => ?_) (fun c6 => ?_)
      · have h := h.1 c6
        refine lv_iload_n hx hb dX2_reach_39 rfl (lv_at hl 1 rfl) ?_
        exact hret H locs ls 40 _ _ hw ⟨rfl, h⟩ rfl dX2_reach_40
      have h := h.2 c6
      refine lv_iload_n hx hb dX2_reach_14 rfl (lv_at hl 3 rfl) ?_
      refine lv_iload hx hb dX2_reach_15 (lv_at hl 0 rfl) ?_
      refine P_calli (va_runSN (own := "Leastreader$Machine") (As := [.int v4, .int v2]) (rest := []) ⟨hx, hb, hml, hown, ht⟩ (c_X9_isIn v4 v2 h) ⟨va_cnB 2 ht (G_ws q_411) rfl rfl rfl (nw_409 hN) (ht _ q_46) hd_5 ⟨Nat.le_of_ble_eq_true rfl, Nat.le_of_ble_eq_true rfl⟩, ht _ q_410, trivial⟩ ⟨PM_blind, PM_pre⟩ rfl rfl hl.1 rfl (lv_room (Nat.le_of_ble_eq_true rfl)) dX2_reach_17 ⟨Nat.le_of_ble_eq_true rfl, Nat.le_of_ble_eq_true rfl⟩) (fun r7 h => ?_)
      refine lv_if_eq (tgt := 33) hx hb dX2_reach_20 (by decide) (fun c8 => ?_) (fun c8 => ?_)
      · have h := h.1 c8
        refine lv_iinc (v := (v2 + (1 : Int32))) (lv' := [(4, .int (v2 + (1 : Int32))), (3, .int v3), (0, .ref (ad k0)), (1, .int v4), (2, .int v5)]) hx hb dX2_reach_33 hl (k := 0) rfl rfl (by decide) rfl (fun ls hl => ?_)
        refine lv_goto (tgt := 5) hx hb dX2_reach_36 (by decide) ?_
        exact ih0 (v2 + (1 : Int32)) v3 H locs ls hw (lv_sub hl [0, 1, 2, 3, 4] rfl) h
      have h := h.2 c8
      refine lv_iload_n hx hb dX2_reach_23 rfl (lv_at hl 1 rfl) ?_
      refine lv_aload_n hx hb dX2_reach_24 rfl (lv_at hl 2 rfl) ?_
      refine lv_iload hx hb dX2_reach_25 (lv_at hl 0 rfl) ?_
      refine lv_iload_n hx hb dX2_reach_27 rfl (lv_at hl 4 rfl) ?_
      refine T_calli hw (va_runU (own := "Leastreader$Machine") (As := [.int v2, .int v5]) (rest := [.int v3]) ⟨hx, hb, hml, hown, ht⟩ (c_X7_at_2 k0 hk0 μ H.size v2 v5 h) (va_cwU (owner := "Leastreader$Table") 2 ht (G_U q_412 q_413 q_415 q_416 q_47 q_417) rfl rfl rfl rfl hd_0 ⟨Nat.le_of_ble_eq_true rfl, Nat.le_of_ble_eq_true rfl⟩) ⟨TB.blind, (T_recv hK hw (kd_of hk0 (by decide)) (ent_2 hk0) cl_2), TB.pre hK hN hw⟩ rfl rfl hl.1 rfl (lv_room (Nat.le_of_ble_eq_true rfl)) dX2_reach_28 ⟨Nat.le_of_ble_eq_true rfl, Nat.le_of_ble_eq_true rfl⟩) (fun r9 μ10 H locs h hw => ?_)
      obtain ⟨e11, h⟩ := h
      rw [e11] at hw
      refine lv_ior hx hb dX2_reach_31 ?_
      refine lv_istore_n (lv' := [(3, .int (v3 ||| r9)), (4, .int v2), (0, .ref (ad k0)), (1, .int v4), (2, .int v5)]) hx hb dX2_reach_32 rfl hl (by decide) rfl (fun ls hl => ?_)
      refine lv_iinc (v := (v2 + (1 : Int32))) (lv' := [(4, .int (v2 + (1 : Int32))), (3, .int (v3 ||| r9)), (0, .ref (ad k0)), (1, .int v4), (2, .int v5)]) hx hb dX2_reach_33 hl (k := 1) rfl rfl (by decide) rfl (fun ls hl => ?_)
      refine lv_goto (tgt := 5) hx hb dX2_reach_36 (by decide) ?_
      exact ih0 (v2 + (1 : Int32)) (v3 ||| r9) H locs ls hw (lv_sub hl [0, 1, 2, 3, 4] rfl) h
  exact L0 a1 a2 n12 (0 : Int32) (0 : Int32) H locs ls hw (lv_sub hl [0, 1, 2, 3, 4] rfl) h
