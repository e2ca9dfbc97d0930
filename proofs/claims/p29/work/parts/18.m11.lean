def wp_J9_max_7cf53 (a0 : Int32) (a1 : Int32) (Q : Int32 → Prop) : Prop :=
  (a0 < a1 → (Q a1)) ∧ (¬ a0 < a1 → (Q a0))
set_option maxHeartbeats 4000000 in
set_option maxRecDepth 100000 in
theorem c_J9_max_7cf53 {l : Launch} (a0 : Int32) (a1 : Int32) {Q : Int32 → Prop} (h : wp_J9_max_7cf53 a0 a1 Q) : PMi l yJ9_max_7cf53 (.code yJ9_max_7cf53 cJ9_max_7cf53 2 (Option.some Jvm.ClassFile.FieldType.int)) 0 [.int a0, .int a1] Q := by
  refine P_meti (by decide +kernel) (Nat.le_of_ble_eq_true rfl) ?_
  intro p e s m below meth c Z ls hx hb hml hown ht hret hl
  have hl : lv_has ls 2 [(0, .int a0), (1, .int a1)] := hl
  change (a0 < a1 → (Q a1)) ∧ (¬ a0 < a1 → (Q a0)) at h
  refine lv_iload_n hx hb dJ9_max_7cf53_0 rfl (lv_at hl 0 rfl) ?_
  refine lv_iload_n hx hb dJ9_max_7cf53_1 rfl (lv_at hl 1 rfl) ?_
  refine lv_icmp_lt (tgt := 9) hx hb dJ9_max_7cf53_2 (by decide) (fun c1 => ?_) (fun c1 => ?_)
  · have h := h.1 c1
    refine lv_iload_n hx hb dJ9_max_7cf53_9 rfl (lv_at hl 1 rfl) ?_
    exact hret ls 10 _ h rfl dJ9_max_7cf53_10
  have h := h.2 c1
  refine lv_iload_n hx hb dJ9_max_7cf53_5 rfl (lv_at hl 0 rfl) ?_
  refine lv_goto (tgt := 10) hx hb dJ9_max_7cf53_6 (by decide) ?_
  exact hret ls 10 _ h rfl dJ9_max_7cf53_10
