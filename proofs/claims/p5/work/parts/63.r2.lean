def wpl_X11_part_6 (fa1 : Nat → Int32) (na1 : Nat) (n6 : Nat) (v5 : Int32) (Q : Nat → (Nat → Int32) → Prop) : Nat → Int32 → (Nat → Int32) → Prop
  | 0, _, _ => False
  | n + 1, v4, f7 =>
    (v5 ≤ v4 → (Q n6 f7)) ∧ (¬ v5 ≤ v4 → (vp_in v4 na1 ∧ (vp_in v4 n6 ∧ (wpl_X11_part_6 fa1 na1 n6 v5 Q n (v4 + (1 : Int32)) (upd f7 v4.toNatClampNeg (fa1 v4.toNatClampNeg))))))
def wp_X11_part (na1 : Nat) (fa1 : Nat → Int32) (a2 : Int32) (Q : Nat → (Nat → Int32) → Prop) : Prop :=
  (¬ a2 < 0 ∧ a2.toNatClampNeg ≤ 128) ∧ (∃ n2x, wpl_X11_part_6 fa1 na1 a2.toNatClampNeg a2 Q n2x (0 : Int32) (fun _ => 0))
set_option maxHeartbeats 4000000 in
set_option maxRecDepth 100000 in
theorem c_X11_part {l : Launch} {D : va_G} {cI cL : ClassId} (qa1 : Nat)  (sz : Nat) (na1 : Nat) (fa1 : Nat → Int32) (a2 : Int32)  {Q : Nat → (Nat → Int32) → Prop} (h : wp_X11_part na1 fa1 a2 Q) : SMA l yX11_part (.code yX11_part cX11_part 4 (Option.some (Jvm.ClassFile.FieldType.array Jvm.ClassFile.FieldType.int))) 0 1 128 [.ref qa1, .int a2] D cI cL sz [eI cI qa1 na1 fa1] (fun o => ∃ n f, o = some (n, f) ∧ Q n f) := by
  refine S_metA (by decide +kernel) (Nat.le_of_ble_eq_true rfl) ?_
  intro p e s m below meth c Z ls hx hb hml hown ht hK hP0 hw hret hretN hl
  have hl : lv_has ls 4 [(0, .ref qa1), (1, .int a2)] := hl
  have hL0 := va_Ph hP0
  have hB0 : ¬ SA s.heap.size qa1 := fun z => absurd hL0.lt (Nat.not_lt.mpr z)
  suffices hh : ∀ (H : Heap) (locs : List Loc), MW D [] [] (SA s.heap.size) s H locs → W p l e (RA 0 1 128) s m #[.ref qa1, .int a2] below meth c H locs 0 0 Z (F0 m 0 ls []) from hh _ _ hw
  intro H locs hw
  change (¬ a2 < 0 ∧ a2.toNatClampNeg ≤ 128) ∧ (∃ n2x, wpl_X11_part_6 fa1 na1 a2.toNatClampNeg a2 Q n2x (0 : Int32) (fun _ => 0)) at h
  refine lv_iload_n hx hb dX11_part_0 rfl (lv_at hl 1 rfl) ?_
  obtain ⟨z1, h⟩ := h
  refine n_newI (B := 128) hx hb ht q_128 hK hw z1 (by decide) (show 0 + 1 ≤ 1 by omega) (show 0 + 128 ≤ 128 by omega) dX11_part_1 (fun q2 H hq2 hw => ?_)
  have hw : MW D [] [eI cI q2 a2.toNatClampNeg (fun _ => 0)] (SA s.heap.size) s H locs := hw
  refine lv_astore_n (lv' := [(2, .ref q2), (0, .ref qa1), (1, .int a2)]) hx hb dX11_part_3 rfl hl (by decide) rfl (fun ls hl => ?_)
  refine lv_iconst (v := (0 : Int32)) hx hb dX11_part_4 (by decide) ?_
  refine lv_istore_n (lv' := [(3, .int (0 : Int32)), (2, .ref q2), (0, .ref qa1), (1, .int a2)]) hx hb dX11_part_5 rfl hl (by decide) rfl (fun ls hl => ?_)
  obtain ⟨n11, h⟩ := h
  have L2 : ∀ (n6 : Nat) (v5 : Int32), ∀ (n : Nat), ∀ (v4 : Int32) (f7 : Nat → Int32), ∀ (H : Heap) (locs : List Loc) (ls : Array Slot), MW D [] [eI cI q2 n6 f7] (SA s.heap.size) s H locs → lv_has ls 4 [(3, .int v4), (2, .ref q2), (0, .ref qa1), (1, .int v5)] → wpl_X11_part_6 fa1 na1 n6 v5 Q n v4 f7 → W p l e (RA 0 1 128) s m #[.ref qa1, .int a2] below meth c H locs 1 128 Z (F0 m 6 ls []) := by
    intro n6 v5
    intro n
    induction n with
    | zero => intro v4 f7 H locs ls hw hl h; exact False.elim h
    | succ n ih2 =>
      intro v4 f7 H locs ls hw hl h
      change (v5 ≤ v4 → (Q n6 f7)) ∧ (¬ v5 ≤ v4 → (vp_in v4 na1 ∧ (vp_in v4 n6 ∧ (wpl_X11_part_6 fa1 na1 n6 v5 Q n (v4 + (1 : Int32)) (upd f7 v4.toNatClampNeg (fa1 v4.toNatClampNeg)))))) at h
      refine lv_iload_n hx hb dX11_part_6 rfl (lv_at hl 0 rfl) ?_
      refine lv_iload_n hx hb dX11_part_7 rfl (lv_at hl 3 rfl) ?_
      refine lv_icmp_ge (tgt := 23) hx hb dX11_part_8 (by decide) (fun c8 => ?_) (fun c8 => ?_)
      · have h := h.1 c8
        refine lv_aload_n hx hb dX11_part_23 rfl (lv_at hl 1 rfl) ?_
        exact hret H locs ls 24 _ _ _ 0 _ _ _ hw rfl hq2 ⟨_, _, rfl, h⟩ (show 1 ≤ 1 by omega) (show 128 ≤ 128 by omega) dX11_part_24
      have h := h.2 c8
      refine lv_aload_n hx hb dX11_part_11 rfl (lv_at hl 1 rfl) ?_
      refine lv_iload_n hx hb dX11_part_12 rfl (lv_at hl 0 rfl) ?_
      refine lv_aload_n hx hb dX11_part_13 rfl (lv_at hl 2 rfl) ?_
      refine lv_iload_n hx hb dX11_part_14 rfl (lv_at hl 0 rfl) ?_
      obtain ⟨z9, h⟩ := h
      refine n_iald hx hb hK (hw.arg hL0 hB0) z9 dX11_part_15 ?_
      obtain ⟨z10, h⟩ := h
      refine n_iast (j := 0) hx hb hK hw rfl z10 dX11_part_16 (fun H locs hw => ?_)
      have hw : MW D [] [eI cI q2 n6 (upd f7 v4.toNatClampNeg (fa1 v4.toNatClampNeg))] (SA s.heap.size) s H locs := hw
      refine lv_iinc (v := (v4 + (1 : Int32))) (lv' := [(3, .int (v4 + (1 : Int32))), (2, .ref q2), (0, .ref qa1), (1, .int v5)]) hx hb dX11_part_17 hl (k := 0) rfl rfl (by decide) rfl (fun ls hl => ?_)
      refine lv_goto (tgt := 6) hx hb dX11_part_20 (by decide) ?_
      exact ih2 (v4 + (1 : Int32)) (upd f7 v4.toNatClampNeg (fa1 v4.toNatClampNeg)) H locs ls hw (lv_sub hl [0, 1, 2, 3] rfl) h
  exact L2 a2.toNatClampNeg a2 n11 (0 : Int32) (fun _ => 0) H locs ls hw (lv_sub hl [0, 1, 2, 3] rfl) h
def wpl_X11_oneWay_105 (fa1 : Nat → Int64) (na1 : Nat) (f35 : Nat → Int64) (n17 : Nat) (f34 : Nat → Int32) (n15 : Nat) (v41 : Int64) (v42 : Int32) (v43 : Int32) (v44 : Int32) (v45 : Int32) (v46 : Int64) (v47 : Int64) (v48 : Int32) (K129 : Int32 → Prop) : Nat → Int32 → Prop
  | 0, _ => False
  | n + 1, v40 =>
    (v44 ≤ v40 → (K129 v40)) ∧ (¬ v44 ≤ v40 → (vp_in v40 n17 ∧ (((lg_cmp (f35 v40.toNatClampNeg) v41) = 0 → (K129 v40)) ∧ (¬ (lg_cmp (f35 v40.toNatClampNeg) v41) = 0 → (wpl_X11_oneWay_105 fa1 na1 f35 n17 f34 n15 v41 v42 v43 v44 v45 v46 v47 v48 K129 n (v40 + (1 : Int32)))))))
def wpl_X11_oneWay_80 (fa1 : Nat → Int64) (na1 : Nat) (n17 : Nat) (n15 : Nat) (v28 : Int32) (v30 : Int32) (v31 : Int64) (v32 : Int64) (v33 : Int32) (K173 : Int32 → (Nat → Int64) → (Nat → Int32) → Prop) (Q : Option AI → Prop) : Nat → Int32 → Int32 → (Nat → Int64) → (Nat → Int32) → Prop
  | 0, _, _, _, _ => False
  | n + 1, v27, v29, f35, f34 =>
    ((3 : Int32) ≤ v27 → (K173 v29 f35 f34)) ∧ (¬ (3 : Int32) ≤ v27 → (vp_in v28 n17 ∧ (wp_X11_next na1 fa1 v30 (f35 v28.toNatClampNeg) v27 v33 (fun (r38 : Int64) => ∃ n38x, wpl_X11_oneWay_105 fa1 na1 f35 n17 f34 n15 r38 v27 v28 v29 v30 v31 v32 v33 (fun (u53 : Int32) => (¬ u53 = (32 : Int32) → (∀ J55 : Int32 → (Nat → Int64) → Prop, (∀ (j56 : Int32) (f57 : Nat → Int64), (vp_in (((4 : Int32) * v28) + v27) n15 ∧ (wpl_X11_oneWay_80 fa1 na1 n17 n15 v28 v30 v31 v32 v33 K173 Q n (v27 + (1 : Int32)) j56 f57 (upd f34 (((4 : Int32) * v28) + v27).toNatClampNeg u53))) → J55 j56 f57) → ((¬ u53 = v29 → (J55 v29 f35)) ∧ (u53 = v29 → (vp_in v29 n17 ∧ (J55 (v29 + (1 : Int32)) (vp_updL f35 v29.toNatClampNeg r38))))))) ∧ (u53 = (32 : Int32) → (Q none))) n38x (0 : Int32)))))
def wpl_X11_oneWay_34 (fa1 : Nat → Int64) (na1 : Nat) (n17 : Nat) (n15 : Nat) (v11 : Int32) (v12 : Int64) (v13 : Int64) (v14 : Int32) (K179 : Int32 → (Nat → Int32) → Prop) (Q : Option AI → Prop) : Nat → Int32 → Int32 → (Nat → Int32) → (Nat → Int64) → Prop
  | 0, _, _, _, _ => False
  | n + 1, v9, v10, f16, f18 =>
    (v10 ≤ v9 → (K179 v10 f16)) ∧ (¬ v10 ≤ v9 → (vp_in v9 n17 ∧ (∀ J21 : Int64 → Prop, (∀ (j22 : Int64), (∀ J23 : Int32 → Prop, (∀ (j24 : Int32), (vp_in (((4 : Int32) * v9) + (3 : Int32)) n15 ∧ (∃ n25x, wpl_X11_oneWay_80 fa1 na1 n17 n15 v9 v11 v12 v13 v14 (fun (u62 : Int32) (f63 : Nat → Int64) (f64 : Nat → Int32) => wpl_X11_oneWay_34 fa1 na1 n17 n15 v11 v12 v13 v14 K179 Q n (v9 + (1 : Int32)) u62 f64 f63) Q n25x (0 : Int32) v10 f18 (upd f16 (((4 : Int32) * v9) + (3 : Int32)).toNatClampNeg j24))) → J23 j24) → (((lg_cmp ((f18 v9.toNatClampNeg) &&& j22) (0 : Int64)) = 0 → (J23 (0 : Int32))) ∧ (¬ (lg_cmp ((f18 v9.toNatClampNeg) &&& j22) (0 : Int64)) = 0 → (J23 (1 : Int32))))) → J21 j22) → ((v14 = 0 → (J21 v13)) ∧ (¬ v14 = 0 → (J21 v12))))))
def wp_X11_oneWay (na1 : Nat) (fa1 : Nat → Int64) (a2 : Int32) (a3 : Int64) (a4 : Int64) (a5 : Int32) (Q : Option AI → Prop) : Prop :=
  (¬ (32 : Int32) < 0 ∧ (32 : Int32).toNatClampNeg ≤ 32) ∧ ((¬ (128 : Int32) < 0 ∧ (128 : Int32).toNatClampNeg ≤ 128) ∧ (∀ J5 : Int64 → Prop, (∀ (j6 : Int64), (vp_in (0 : Int32) ((32 : Int32).toNatClampNeg) ∧ (∃ n7x, wpl_X11_oneWay_34 fa1 na1 ((32 : Int32).toNatClampNeg) ((128 : Int32).toNatClampNeg) a2 a3 a4 a5 (fun (u68 : Int32) (f69 : Nat → Int32) => wp_X11_part ((128 : Int32).toNatClampNeg) f69 ((4 : Int32) * u68) (fun (n71 : Nat) (f72 : Nat → Int32) => Q (some (n71, f72)))) Q n7x (0 : Int32) (1 : Int32) (fun _ => 0) (vp_updL (fun _ => 0) (0 : Int32).toNatClampNeg j6))) → J5 j6) → ((a5 = 0 → (J5 a3)) ∧ (¬ a5 = 0 → (J5 a4)))))
set_option maxHeartbeats 4000000 in
set_option maxRecDepth 100000 in
theorem c_X11_oneWay {l : Launch} {D : va_G} {cI cL : ClassId} (qa1 : Nat)  (sz : Nat) (na1 : Nat) (fa1 : Nat → Int64) (a2 : Int32) (a3 : Int64) (a4 : Int64) (a5 : Int32)  {Q : Option AI → Prop} (h : wp_X11_oneWay na1 fa1 a2 a3 a4 a5 Q) : SMA l yX11_oneWay (.code yX11_oneWay cX11_oneWay 15 (Option.some (Jvm.ClassFile.FieldType.array Jvm.ClassFile.FieldType.int))) 1 3 288 [.ref qa1, .int a2, .long a3, .long a4, .int a5] D cI cL sz [eL cL qa1 na1 fa1] Q := by
  refine S_metA (by decide +kernel) (Nat.le_of_ble_eq_true rfl) ?_
  intro p e s m below meth c Z ls hx hb hml hown ht hK hP0 hw hret hretN hl
  have hl : lv_has ls 15 [(0, .ref qa1), (1, .int a2), (2, .long a3), (4, .long a4), (6, .int a5)] := hl
  have hL0 := va_Ph hP0
  have hB0 : ¬ SA s.heap.size qa1 := fun z => absurd hL0.lt (Nat.not_lt.mpr z)
  suffices hh : ∀ (H : Heap) (locs : List Loc), MW D [] [] (SA s.heap.size) s H locs → W p l e (RA 1 3 288) s m #[.ref qa1, .int a2, .long a3, .long a4, .int a5] below meth c H locs 0 0 Z (F0 m 0 ls []) from hh _ _ hw
  intro H locs hw
  change (¬ (32 : Int32) < 0 ∧ (32 : Int32).toNatClampNeg ≤ 32) ∧ ((¬ (128 : Int32) < 0 ∧ (128 : Int32).toNatClampNeg ≤ 128) ∧ (∀ J5 : Int64 → Prop, (∀ (j6 : Int64), (vp_in (0 : Int32) ((32 : Int32).toNatClampNeg) ∧ (∃ n7x, wpl_X11_oneWay_34 fa1 na1 ((32 : Int32).toNatClampNeg) ((128 : Int32).toNatClampNeg) a2 a3 a4 a5 (fun (u68 : Int32) (f69 : Nat → Int32) => wp_X11_part ((128 : Int32).toNatClampNeg) f69 ((4 : Int32) * u68) (fun (n71 : Nat) (f72 : Nat → Int32) => Q (some (n71, f72)))) Q n7x (0 : Int32) (1 : Int32) (fun _ => 0) (vp_updL (fun _ => 0) (0 : Int32).toNatClampNeg j6))) → J5 j6) → ((a5 = 0 → (J5 a3)) ∧ (¬ a5 = 0 → (J5 a4))))) at h
  refine lv_bipush (v := (32 : Int32)) hx hb dX11_oneWay_0 (by decide) ?_
  obtain ⟨z1, h⟩ := h
  refine n_newL (B := 32) hx hb ht q_1424 hK hw z1 (by decide) (show 0 + 1 ≤ 3 by omega) (show 0 + 32 ≤ 288 by omega) dX11_oneWay_2 (fun q2 H hq2 hw => ?_)
  have hw : MW D [] [eL cL q2 ((32 : Int32).toNatClampNeg) (fun _ => 0)] (SA s.heap.size) s H locs := hw
  refine lv_astore (lv' := [(7, .ref q2), (0, .ref qa1), (1, .int a2), (2, .long a3), (4, .long a4), (6, .int a5)]) hx hb dX11_oneWay_4 hl (by decide) rfl (fun ls hl => ?_)
  refine lv_sipush (v := (128 : Int32)) hx hb dX11_oneWay_6 (by decide) ?_
  obtain ⟨z3, h⟩ := h
  refine n_newI (B := 128) hx hb ht q_128 hK hw z3 (by decide) (show 1 + 1 ≤ 3 by omega) (show 32 + 128 ≤ 288 by omega) dX11_oneWay_9 (fun q4 H hq4 hw => ?_)
  have hw : MW D [] [eL cL q2 ((32 : Int32).toNatClampNeg) (fun _ => 0), eI cI q4 ((128 : Int32).toNatClampNeg) (fun _ => 0)] (SA s.heap.size) s H locs := hw
  refine lv_astore (lv' := [(8, .ref q4), (7, .ref q2), (0, .ref qa1), (1, .int a2), (2, .long a3), (4, .long a4), (6, .int a5)]) hx hb dX11_oneWay_11 hl (by decide) rfl (fun ls hl => ?_)
  refine lv_iconst (v := (1 : Int32)) hx hb dX11_oneWay_13 (by decide) ?_
  refine lv_istore (lv' := [(9, .int (1 : Int32)), (8, .ref q4), (7, .ref q2), (0, .ref qa1), (1, .int a2), (2, .long a3), (4, .long a4), (6, .int a5)]) hx hb dX11_oneWay_14 hl (by decide) rfl (fun ls hl => ?_)
  refine lv_aload hx hb dX11_oneWay_16 (lv_at hl 2 rfl) ?_
  refine lv_iconst (v := (0 : Int32)) hx hb dX11_oneWay_18 (by decide) ?_
  refine lv_iload hx hb dX11_oneWay_19 (lv_at hl 7 rfl) ?_
  have h := h (fun (j6 : Int64) => ∀ (H : Heap) (locs : List Loc) (ls : Array Slot), MW D [] [eL cL q2 ((32 : Int32).toNatClampNeg) (fun _ => 0), eI cI q4 ((128 : Int32).toNatClampNeg) (fun _ => 0)] (SA s.heap.size) s H locs → lv_has ls 15 [(9, .int (1 : Int32)), (8, .ref q4), (7, .ref q2), (0, .ref qa1), (1, .int a2), (2, .long a3), (4, .long a4), (6, .int a5)] → W p l e (RA 1 3 288) s m #[.ref qa1, .int a2, .long a3, .long a4, .int a5] below meth c H locs 2 160 Z (F0 m 30 ls [.long j6, .int (0 : Int32), .ref q2])) (fun j6 h H locs ls hw hl => by
    obtain ⟨z7, h⟩ := h
    refine n_last (j := 0) hx hb hK hw rfl z7 dX11_oneWay_30 (fun H locs hw => ?_)
    have hw : MW D [] [eL cL q2 ((32 : Int32).toNatClampNeg) (vp_updL (fun _ => 0) (0 : Int32).toNatClampNeg j6), eI cI q4 ((128 : Int32).toNatClampNeg) (fun _ => 0)] (SA s.heap.size) s H locs := hw
    refine lv_iconst (v := (0 : Int32)) hx hb dX11_oneWay_31 (by decide) ?_
    refine lv_istore (lv' := [(10, .int (0 : Int32)), (9, .int (1 : Int32)), (8, .ref q4), (7, .ref q2), (0, .ref qa1), (1, .int a2), (2, .long a3), (4, .long a4), (6, .int a5)]) hx hb dX11_oneWay_32 hl (by decide) rfl (fun ls hl => ?_)
    obtain ⟨n67, h⟩ := h
    have L7 : ∀ (n17 : Nat) (n15 : Nat) (v11 : Int32) (v12 : Int64) (v13 : Int64) (v14 : Int32) (K179 : Int32 → (Nat → Int32) → Prop), (∀ (v10 : Int32) (f16 : Nat → Int32), ∀ (H : Heap) (locs : List Loc) (ls : Array Slot), MW D [] [eI cI q4 n15 f16] (SA s.heap.size) s H locs → lv_has ls 15 [(9, .int v10), (8, .ref q4)] → K179 v10 f16 → W p l e (RA 1 3 288) s m #[.ref qa1, .int a2, .long a3, .long a4, .int a5] below meth c H locs 2 160 Z (F0 m 179 ls [])) → ∀ (n : Nat), ∀ (v9 : Int32) (v10 : Int32) (f16 : Nat → Int32) (f18 : Nat → Int64), ∀ (H : Heap) (locs : List Loc) (ls : Array Slot), MW D [] [eL cL q2 n17 f18, eI cI q4 n15 f16] (SA s.heap.size) s H locs → lv_has ls 15 [(10, .int v9), (9, .int v10), (8, .ref q4), (7, .ref q2), (0, .ref qa1), (1, .int v11), (2, .long v12), (4, .long v13), (6, .int v14)] → wpl_X11_oneWay_34 fa1 na1 n17 n15 v11 v12 v13 v14 K179 Q n v9 v10 f16 f18 → W p l e (RA 1 3 288) s m #[.ref qa1, .int a2, .long a3, .long a4, .int a5] below meth c H locs 2 160 Z (F0 m 34 ls []) := by
      intro n17 n15 v11 v12 v13 v14 K179 hK179
      intro n
      induction n with
      | zero => intro v9 v10 f16 f18 H locs ls hw hl h; exact False.elim h
      | succ n ih7 =>
        intro v9 v10 f16 f18 H locs ls hw hl h
        change (v10 ≤ v9 → (K179 v10 f16)) ∧ (¬ v10 ≤ v9 → (vp_in v9 n17 ∧ (∀ J21 : Int64 → Prop, (∀ (j22 : Int64), (∀ J23 : Int32 → Prop, (∀ (j24 : Int32), (vp_in (((4 : Int32) * v9) + (3 : Int32)) n15 ∧ (∃ n25x, wpl_X11_oneWay_80 fa1 na1 n17 n15 v9 v11 v12 v13 v14 (fun (u62 : Int32) (f63 : Nat → Int64) (f64 : Nat → Int32) => wpl_X11_oneWay_34 fa1 na1 n17 n15 v11 v12 v13 v14 K179 Q n (v9 + (1 : Int32)) u62 f64 f63) Q n25x (0 : Int32) v10 f18 (upd f16 (((4 : Int32) * v9) + (3 : Int32)).toNatClampNeg j24))) → J23 j24) → (((lg_cmp ((f18 v9.toNatClampNeg) &&& j22) (0 : Int64)) = 0 → (J23 (0 : Int32))) ∧ (¬ (lg_cmp ((f18 v9.toNatClampNeg) &&& j22) (0 : Int64)) = 0 → (J23 (1 : Int32))))) → J21 j22) → ((v14 = 0 → (J21 v13)) ∧ (¬ v14 = 0 → (J21 v12)))))) at h
        refine lv_iload hx hb dX11_oneWay_34 (lv_at hl 0 rfl) ?_
        refine lv_iload hx hb dX11_oneWay_36 (lv_at hl 1 rfl) ?_
        refine lv_icmp_ge (tgt := 179) hx hb dX11_oneWay_38 (by decide) (fun c19 => ?_) (fun c19 => ?_)
        · have h := h.1 c19
          exact hK179 v10 f16 H locs ls (hw.sub [1] (by decide) rfl) (lv_sub hl [1, 2] rfl) h
        have h := h.2 c19
        refine lv_aload hx hb dX11_oneWay_41 (lv_at hl 2 rfl) ?_
        refine lv_iconst (v := (4 : Int32)) hx hb dX11_oneWay_43 (by decide) ?_
        refine lv_iload hx hb dX11_oneWay_44 (lv_at hl 0 rfl) ?_
        refine lv_imul hx hb dX11_oneWay_46 ?_
        refine lv_iconst (v := (3 : Int32)) hx hb dX11_oneWay_47 (by decide) ?_
        refine lv_iadd hx hb dX11_oneWay_48 ?_
        refine lv_aload hx hb dX11_oneWay_49 (lv_at hl 3 rfl) ?_
        refine lv_iload hx hb dX11_oneWay_51 (lv_at hl 0 rfl) ?_
        obtain ⟨z20, h⟩ := h
        refine n_lald hx hb hK (hw.n (j := 0) rfl) z20 dX11_oneWay_53 ?_
        refine lv_iload hx hb dX11_oneWay_54 (lv_at hl 8 rfl) ?_
        have h := h (fun (j22 : Int64) => ∀ (H : Heap) (locs : List Loc) (ls : Array Slot), MW D [] [eL cL q2 n17 f18, eI cI q4 n15 f16] (SA s.heap.size) s H locs → lv_has ls 15 [(10, .int v9), (9, .int v10), (8, .ref q4), (7, .ref q2), (0, .ref qa1), (1, .int v11), (2, .long v12), (4, .long v13), (6, .int v14)] → W p l e (RA 1 3 288) s m #[.ref qa1, .int a2, .long a3, .long a4, .int a5] below meth c H locs 2 160 Z (F0 m 65 ls [.long j22, .long (f18 v9.toNatClampNeg), .int (((4 : Int32) * v9) + (3 : Int32)), .ref q4])) (fun j22 h H locs ls hw hl => by
          refine lv_land hx hb dX11_oneWay_65 ?_
          refine lv_lconst (v := (0 : Int64)) hx hb dX11_oneWay_66 (by decide) ?_
          refine W.lcmp hx hb dX11_oneWay_67 ?_
          have h := h (fun (j24 : Int32) => ∀ (H : Heap) (locs : List Loc) (ls : Array Slot), MW D [] [eL cL q2 n17 f18, eI cI q4 n15 f16] (SA s.heap.size) s H locs → lv_has ls 15 [(10, .int v9), (9, .int v10), (8, .ref q4), (7, .ref q2), (0, .ref qa1), (1, .int v11), (2, .long v12), (4, .long v13), (6, .int v14)] → W p l e (RA 1 3 288) s m #[.ref qa1, .int a2, .long a3, .long a4, .int a5] below meth c H locs 2 160 Z (F0 m 76 ls [.int j24, .int (((4 : Int32) * v9) + (3 : Int32)), .ref q4])) (fun j24 h H locs ls hw hl => by
            obtain ⟨z25, h⟩ := h
            refine n_iast (j := 1) hx hb hK hw rfl z25 dX11_oneWay_76 (fun H locs hw => ?_)
            have hw : MW D [] [eL cL q2 n17 f18, eI cI q4 n15 (upd f16 (((4 : Int32) * v9) + (3 : Int32)).toNatClampNeg j24)] (SA s.heap.size) s H locs := hw
            refine lv_iconst (v := (0 : Int32)) hx hb dX11_oneWay_77 (by decide) ?_
            refine lv_istore (lv' := [(11, .int (0 : Int32)), (10, .int v9), (9, .int v10), (8, .ref q4), (7, .ref q2), (0, .ref qa1), (1, .int v11), (2, .long v12), (4, .long v13), (6, .int v14)]) hx hb dX11_oneWay_78 hl (by decide) rfl (fun ls hl => ?_)
            obtain ⟨n61, h⟩ := h
            have L25 : ∀ (v28 : Int32) (v30 : Int32) (v31 : Int64) (v32 : Int64) (v33 : Int32) (K173 : Int32 → (Nat → Int64) → (Nat → Int32) → Prop), (∀ (v29 : Int32) (f35 : Nat → Int64) (f34 : Nat → Int32), ∀ (H : Heap) (locs : List Loc) (ls : Array Slot), MW D [] [eL cL q2 n17 f35, eI cI q4 n15 f34] (SA s.heap.size) s H locs → lv_has ls 15 [(10, .int v28), (9, .int v29), (8, .ref q4), (7, .ref q2), (0, .ref qa1), (1, .int v30), (2, .long v31), (4, .long v32), (6, .int v33)] → K173 v29 f35 f34 → W p l e (RA 1 3 288) s m #[.ref qa1, .int a2, .long a3, .long a4, .int a5] below meth c H locs 2 160 Z (F0 m 173 ls [])) → ∀ (n : Nat), ∀ (v27 : Int32) (v29 : Int32) (f35 : Nat → Int64) (f34 : Nat → Int32), ∀ (H : Heap) (locs : List Loc) (ls : Array Slot), MW D [] [eL cL q2 n17 f35, eI cI q4 n15 f34] (SA s.heap.size) s H locs → lv_has ls 15 [(11, .int v27), (10, .int v28), (9, .int v29), (8, .ref q4), (7, .ref q2), (0, .ref qa1), (1, .int v30), (2, .long v31), (4, .long v32), (6, .int v33)] → wpl_X11_oneWay_80 fa1 na1 n17 n15 v28 v30 v31 v32 v33 K173 Q n v27 v29 f35 f34 → W p l e (RA 1 3 288) s m #[.ref qa1, .int a2, .long a3, .long a4, .int a5] below meth c H locs 2 160 Z (F0 m 80 ls []) := by
              intro v28 v30 v31 v32 v33 K173 hK173
              intro n
              induction n with
              | zero => intro v27 v29 f35 f34 H locs ls hw hl h; exact False.elim h
              | succ n ih25 =>
                intro v27 v29 f35 f34 H locs ls hw hl h
                change ((3 : Int32) ≤ v27 → (K173 v29 f35 f34)) ∧ (¬ (3 : Int32) ≤ v27 → (vp_in v28 n17 ∧ (wp_X11_next na1 fa1 v30 (f35 v28.toNatClampNeg) v27 v33 (fun (r38 : Int64) => ∃ n38x, wpl_X11_oneWay_105 fa1 na1 f35 n17 f34 n15 r38 v27 v28 v29 v30 v31 v32 v33 (fun (u53 : Int32) => (¬ u53 = (32 : Int32) → (∀ J55 : Int32 → (Nat → Int64) → Prop, (∀ (j56 : Int32) (f57 : Nat → Int64), (vp_in (((4 : Int32) * v28) + v27) n15 ∧ (wpl_X11_oneWay_80 fa1 na1 n17 n15 v28 v30 v31 v32 v33 K173 Q n (v27 + (1 : Int32)) j56 f57 (upd f34 (((4 : Int32) * v28) + v27).toNatClampNeg u53))) → J55 j56 f57) → ((¬ u53 = v29 → (J55 v29 f35)) ∧ (u53 = v29 → (vp_in v29 n17 ∧ (J55 (v29 + (1 : Int32)) (vp_updL f35 v29.toNatClampNeg r38))))))) ∧ (u53 = (32 : Int32) → (Q none))) n38x (0 : Int32))))) at h
                refine lv_iload hx hb dX11_oneWay_80 (lv_at hl 0 rfl) ?_
                refine lv_iconst (v := (3 : Int32)) hx hb dX11_oneWay_82 (by decide) ?_
                refine lv_icmp_ge (tgt := 173) hx hb dX11_oneWay_83 (by decide) (fun c36 => ?_) (fun c36 => ?_)
                · have h := h.1 c36
                  exact hK173 v29 f35 f34 H locs ls hw (lv_sub hl [1, 2, 3, 4, 5, 6, 7, 8, 9] rfl) h
                have h := h.2 c36
                refine lv_aload_n hx hb dX11_oneWay_86 rfl (lv_at hl 5 rfl) ?_
                refine lv_iload_n hx hb dX11_oneWay_87 rfl (lv_at hl 6 rfl) ?_
                refine lv_aload hx hb dX11_oneWay_88 (lv_at hl 4 rfl) ?_
                refine lv_iload hx hb dX11_oneWay_90 (lv_at hl 1 rfl) ?_
                obtain ⟨z37, h⟩ := h
                refine n_lald hx hb hK (hw.n (j := 0) rfl) z37 dX11_oneWay_92 ?_
                refine lv_iload hx hb dX11_oneWay_93 (lv_at hl 0 rfl) ?_
                refine lv_iload hx hb dX11_oneWay_95 (lv_at hl 9 rfl) ?_
                refine S_calll hw (va_runS (own := "LeastreaderModel") (As := [.ref qa1, .int v30, .long (f35 v28.toNatClampNeg), .int v27, .int v33]) (rest := []) ⟨hx, hb, hml, hown, ht⟩ (c_X11_next qa1 H.size na1 fa1 v30 (f35 v28.toNatClampNeg) v27 v33 h) (va_cwS 5 ht (G_S q_1421 q_1422 q_56 q_1423) rfl rfl rfl hd_80 ⟨Nat.le_of_ble_eq_true rfl, Nat.le_of_ble_eq_true rfl⟩) ⟨SB.blind, SB.pre hK (va_Pc2 (hw.arg hL0 hB0) va_P0)⟩ rfl rfl hl.1 rfl (lv_room (Nat.le_of_ble_eq_true rfl)) dX11_oneWay_97 ⟨show 2 + 0 ≤ 3 by omega, show 160 + 0 ≤ 288 by omega⟩) (fun r38 H locs h hw => ?_)
                refine lv_lstore (lv' := [(12, .long r38), (11, .int v27), (10, .int v28), (9, .int v29), (8, .ref q4), (7, .ref q2), (0, .ref qa1), (1, .int v30), (2, .long v31), (4, .long v32), (6, .int v33)]) hx hb dX11_oneWay_100 hl (by decide) rfl (fun ls hl => ?_)
                refine lv_iconst (v := (0 : Int32)) hx hb dX11_oneWay_102 (by decide) ?_
                refine lv_istore (lv' := [(14, .int (0 : Int32)), (12, .long r38), (11, .int v27), (10, .int v28), (9, .int v29), (8, .ref q4), (7, .ref q2), (0, .ref qa1), (1, .int v30), (2, .long v31), (4, .long v32), (6, .int v33)]) hx hb dX11_oneWay_103 hl (by decide) rfl (fun ls hl => ?_)
                obtain ⟨n52, h⟩ := h
                have L38 : ∀ (v41 : Int64) (v42 : Int32) (v43 : Int32) (v44 : Int32) (v45 : Int32) (v46 : Int64) (v47 : Int64) (v48 : Int32) (K129 : Int32 → Prop), (∀ (v40 : Int32), ∀ (H : Heap) (locs : List Loc) (ls : Array Slot), MW D [] [eL cL q2 n17 f35, eI cI q4 n15 f34] (SA s.heap.size) s H locs → lv_has ls 15 [(14, .int v40), (12, .long v41), (11, .int v42), (10, .int v43), (9, .int v44), (8, .ref q4), (7, .ref q2), (0, .ref qa1), (1, .int v45), (2, .long v46), (4, .long v47), (6, .int v48)] → K129 v40 → W p l e (RA 1 3 288) s m #[.ref qa1, .int a2, .long a3, .long a4, .int a5] below meth c H locs 2 160 Z (F0 m 129 ls [])) → ∀ (n : Nat), ∀ (v40 : Int32), ∀ (H : Heap) (locs : List Loc) (ls : Array Slot), MW D [] [eL cL q2 n17 f35, eI cI q4 n15 f34] (SA s.heap.size) s H locs → lv_has ls 15 [(14, .int v40), (12, .long v41), (11, .int v42), (10, .int v43), (9, .int v44), (8, .ref q4), (7, .ref q2), (0, .ref qa1), (1, .int v45), (2, .long v46), (4, .long v47), (6, .int v48)] → wpl_X11_oneWay_105 fa1 na1 f35 n17 f34 n15 v41 v42 v43 v44 v45 v46 v47 v48 K129 n v40 → W p l e (RA 1 3 288) s m #[.ref qa1, .int a2, .long a3, .long a4, .int a5] below meth c H locs 2 160 Z (F0 m 105 ls []) := by
                  intro v41 v42 v43 v44 v45 v46 v47 v48 K129 hK129
                  intro n
                  induction n with
                  | zero => intro v40 H locs ls hw hl h; exact False.elim h
                  | succ n ih38 =>
                    intro v40 H locs ls hw hl h
                    change (v44 ≤ v40 → (K129 v40)) ∧ (¬ v44 ≤ v40 → (vp_in v40 n17 ∧ (((lg_cmp (f35 v40.toNatClampNeg) v41) = 0 → (K129 v40)) ∧ (¬ (lg_cmp (f35 v40.toNatClampNeg) v41) = 0 → (wpl_X11_oneWay_105 fa1 na1 f35 n17 f34 n15 v41 v42 v43 v44 v45 v46 v47 v48 K129 n (v40 + (1 : Int32))))))) at h
                    refine lv_iload hx hb dX11_oneWay_105 (lv_at hl 0 rfl) ?_
                    refine lv_iload hx hb dX11_oneWay_107 (lv_at hl 4 rfl) ?_
                    refine lv_icmp_ge (tgt := 129) hx hb dX11_oneWay_109 (by decide) (fun c49 => ?_) (fun c49 => ?_)
                    · have h := h.1 c49
                      exact hK129 v40 H locs ls hw (lv_sub hl [0, 1, 2, 3, 4, 5, 6, 7, 8, 9, 10, 11] rfl) h
                    have h := h.2 c49
                    refine lv_aload hx hb dX11_oneWay_112 (lv_at hl 6 rfl) ?_
                    refine lv_iload hx hb dX11_oneWay_114 (lv_at hl 0 rfl) ?_
                    obtain ⟨z50, h⟩ := h
                    refine n_lald hx hb hK (hw.n (j := 0) rfl) z50 dX11_oneWay_116 ?_
                    refine lv_lload hx hb dX11_oneWay_117 (lv_at hl 1 rfl) ?_
                    refine W.lcmp hx hb dX11_oneWay_119 ?_
                    refine lv_if_eq (tgt := 129) hx hb dX11_oneWay_120 (by decide) (fun c51 => ?_) (fun c51 => ?_)
                    · have h := h.1 c51
                      exact hK129 v40 H locs ls hw (lv_sub hl [0, 1, 2, 3, 4, 5, 6, 7, 8, 9, 10, 11] rfl) h
                    have h := h.2 c51
                    refine lv_iinc (v := (v40 + (1 : Int32))) (lv' := [(14, .int (v40 + (1 : Int32))), (12, .long v41), (11, .int v42), (10, .int v43), (9, .int v44), (8, .ref q4), (7, .ref q2), (0, .ref qa1), (1, .int v45), (2, .long v46), (4, .long v47), (6, .int v48)]) hx hb dX11_oneWay_123 hl (k := 0) rfl rfl (by decide) rfl (fun ls hl => ?_)
                    refine lv_goto (tgt := 105) hx hb dX11_oneWay_126 (by decide) ?_
                    exact ih38 (v40 + (1 : Int32)) H locs ls hw (lv_sub hl [0, 1, 2, 3, 4, 5, 6, 7, 8, 9, 10, 11] rfl) h
                refine L38 r38 v27 v28 v29 v30 v31 v32 v33 _ ?_ n52 (0 : Int32) H locs ls hw (lv_sub hl [0, 1, 2, 3, 4, 5, 6, 7, 8, 9, 10, 11] rfl) h
                intro u53 H locs ls hw hl h
                refine lv_iload hx hb dX11_oneWay_129 (lv_at hl 0 rfl) ?_
                refine lv_bipush (v := (32 : Int32)) hx hb dX11_oneWay_131 (by decide) ?_
                refine lv_icmp_ne (tgt := 138) hx hb dX11_oneWay_133 (by decide) (fun c54 => ?_) (fun c54 => ?_)
                · have h := h.1 c54
                  refine lv_iload hx hb dX11_oneWay_138 (lv_at hl 0 rfl) ?_
                  refine lv_iload hx hb dX11_oneWay_140 (lv_at hl 4 rfl) ?_
                  have h := h (fun (j56 : Int32) (f57 : Nat → Int64) => ∀ (H : Heap) (locs : List Loc) (ls : Array Slot), MW D [] [eL cL q2 n17 f57, eI cI q4 n15 f34] (SA s.heap.size) s H locs → lv_has ls 15 [(14, .int u53), (11, .int v27), (10, .int v28), (9, .int j56), (8, .ref q4), (7, .ref q2), (0, .ref qa1), (1, .int v30), (2, .long v31), (4, .long v32), (6, .int v33)] → W p l e (RA 1 3 288) s m #[.ref qa1, .int a2, .long a3, .long a4, .int a5] below meth c H locs 2 160 Z (F0 m 155 ls [])) (fun j56 f57 h H locs ls hw hl => by
                    refine lv_aload hx hb dX11_oneWay_155 (lv_at hl 4 rfl) ?_
                    refine lv_iconst (v := (4 : Int32)) hx hb dX11_oneWay_157 (by decide) ?_
                    refine lv_iload hx hb dX11_oneWay_158 (lv_at hl 2 rfl) ?_
                    refine lv_imul hx hb dX11_oneWay_160 ?_
                    refine lv_iload hx hb dX11_oneWay_161 (lv_at hl 1 rfl) ?_
                    refine lv_iadd hx hb dX11_oneWay_163 ?_
                    refine lv_iload hx hb dX11_oneWay_164 (lv_at hl 0 rfl) ?_
                    obtain ⟨z58, h⟩ := h
                    refine n_iast (j := 1) hx hb hK hw rfl z58 dX11_oneWay_166 (fun H locs hw => ?_)
                    have hw : MW D [] [eL cL q2 n17 f57, eI cI q4 n15 (upd f34 (((4 : Int32) * v28) + v27).toNatClampNeg u53)] (SA s.heap.size) s H locs := hw
                    refine lv_iinc (v := (v27 + (1 : Int32))) (lv' := [(11, .int (v27 + (1 : Int32))), (14, .int u53), (10, .int v28), (9, .int j56), (8, .ref q4), (7, .ref q2), (0, .ref qa1), (1, .int v30), (2, .long v31), (4, .long v32), (6, .int v33)]) hx hb dX11_oneWay_167 hl (k := 1) rfl rfl (by decide) rfl (fun ls hl => ?_)
                    refine lv_goto (tgt := 80) hx hb dX11_oneWay_170 (by decide) ?_
                    exact ih25 (v27 + (1 : Int32)) j56 f57 (upd f34 (((4 : Int32) * v28) + v27).toNatClampNeg u53) H locs ls hw (lv_sub hl [0, 2, 3, 4, 5, 6, 7, 8, 9, 10] rfl) h)
                  refine lv_icmp_ne (tgt := 155) hx hb dX11_oneWay_142 (by decide) (fun c59 => ?_) (fun c59 => ?_)
                  · have h := h.1 c59
                    exact h H locs ls hw (lv_sub hl [0, 2, 3, 4, 5, 6, 7, 8, 9, 10, 11] rfl)
                  have h := h.2 c59
                  refine lv_aload hx hb dX11_oneWay_145 (lv_at hl 6 rfl) ?_
                  refine lv_iload hx hb dX11_oneWay_147 (lv_at hl 4 rfl) ?_
                  refine lv_iinc (v := (v29 + (1 : Int32))) (lv' := [(9, .int (v29 + (1 : Int32))), (14, .int u53), (12, .long r38), (11, .int v27), (10, .int v28), (8, .ref q4), (7, .ref q2), (0, .ref qa1), (1, .int v30), (2, .long v31), (4, .long v32), (6, .int v33)]) hx hb dX11_oneWay_149 hl (k := 4) rfl rfl (by decide) rfl (fun ls hl => ?_)
                  refine lv_lload hx hb dX11_oneWay_152 (lv_at hl 2 rfl) ?_
                  obtain ⟨z60, h⟩ := h
                  refine n_last (j := 0) hx hb hK hw rfl z60 dX11_oneWay_154 (fun H locs hw => ?_)
                  have hw : MW D [] [eL cL q2 n17 (vp_updL f35 v29.toNatClampNeg r38), eI cI q4 n15 f34] (SA s.heap.size) s H locs := hw
                  exact h H locs ls hw (lv_sub hl [1, 3, 4, 0, 5, 6, 7, 8, 9, 10, 11] rfl)
                have h := h.2 c54
                refine lv_null hx hb dX11_oneWay_136 ?_
                exact hretN H locs ls 137 _ _ _ hw h (show 2 ≤ 3 by omega) (show 160 ≤ 288 by omega) dX11_oneWay_137
            refine L25 v9 v11 v12 v13 v14 _ ?_ n61 (0 : Int32) v10 f18 (upd f16 (((4 : Int32) * v9) + (3 : Int32)).toNatClampNeg j24) H locs ls hw (lv_sub hl [0, 1, 2, 3, 4, 5, 6, 7, 8, 9] rfl) h
            intro u62 f63 f64 H locs ls hw hl h
            refine lv_iinc (v := (v9 + (1 : Int32))) (lv' := [(10, .int (v9 + (1 : Int32))), (9, .int u62), (8, .ref q4), (7, .ref q2), (0, .ref qa1), (1, .int v11), (2, .long v12), (4, .long v13), (6, .int v14)]) hx hb dX11_oneWay_173 hl (k := 0) rfl rfl (by decide) rfl (fun ls hl => ?_)
            refine lv_goto (tgt := 34) hx hb dX11_oneWay_176 (by decide) ?_
            exact ih7 (v9 + (1 : Int32)) u62 f64 f63 H locs ls hw (lv_sub hl [0, 1, 2, 3, 4, 5, 6, 7, 8] rfl) h)
          refine lv_if_eq (tgt := 75) hx hb dX11_oneWay_68 (by decide) (fun c65 => ?_) (fun c65 => ?_)
          · have h := h.1 c65
            refine lv_iconst (v := (0 : Int32)) hx hb dX11_oneWay_75 (by decide) ?_
            exact h H locs ls hw (lv_sub hl [0, 1, 2, 3, 4, 5, 6, 7, 8] rfl)
          have h := h.2 c65
          refine lv_iconst (v := (1 : Int32)) hx hb dX11_oneWay_71 (by decide) ?_
          refine lv_goto (tgt := 76) hx hb dX11_oneWay_72 (by decide) ?_
          exact h H locs ls hw (lv_sub hl [0, 1, 2, 3, 4, 5, 6, 7, 8] rfl))
        refine lv_if_eq (tgt := 63) hx hb dX11_oneWay_56 (by decide) (fun c66 => ?_) (fun c66 => ?_)
        · have h := h.1 c66
          refine lv_lload hx hb dX11_oneWay_63 (lv_at hl 7 rfl) ?_
          exact h H locs ls hw (lv_sub hl [0, 1, 2, 3, 4, 5, 6, 7, 8] rfl)
        have h := h.2 c66
        refine lv_lload_n hx hb dX11_oneWay_59 rfl (lv_at hl 6 rfl) ?_
        refine lv_goto (tgt := 65) hx hb dX11_oneWay_60 (by decide) ?_
        exact h H locs ls hw (lv_sub hl [0, 1, 2, 3, 4, 5, 6, 7, 8] rfl)
    refine L7 ((32 : Int32).toNatClampNeg) ((128 : Int32).toNatClampNeg) a2 a3 a4 a5 _ ?_ n67 (0 : Int32) (1 : Int32) (fun _ => 0) (vp_updL (fun _ => 0) (0 : Int32).toNatClampNeg j6) H locs ls hw (lv_sub hl [0, 1, 2, 3, 4, 5, 6, 7, 8] rfl) h
    intro u68 f69 H locs ls hw hl h
    refine lv_aload hx hb dX11_oneWay_179 (lv_at hl 1 rfl) ?_
    refine lv_iconst (v := (4 : Int32)) hx hb dX11_oneWay_181 (by decide) ?_
    refine lv_iload hx hb dX11_oneWay_182 (lv_at hl 0 rfl) ?_
    refine lv_imul hx hb dX11_oneWay_184 ?_
    refine S_callA hw (va_runS (own := "LeastreaderModel") (As := [.ref q4, .int ((4 : Int32) * u68)]) (rest := []) ⟨hx, hb, hml, hown, ht⟩ (c_X11_part q4 H.size ((128 : Int32).toNatClampNeg) f69 ((4 : Int32) * u68) h) (va_cwS 2 ht (G_S q_1463 q_1464 q_56 q_1465) rfl rfl rfl hd_81 ⟨Nat.le_of_ble_eq_true rfl, Nat.le_of_ble_eq_true rfl⟩) ⟨SB.blind, SB.pre hK (va_Pc2 (hw.n (j := 0) rfl) va_P0)⟩ rfl rfl hl.1 rfl (lv_room (Nat.le_of_ble_eq_true rfl)) dX11_oneWay_185 ⟨show 2 + 1 ≤ 3 by omega, show 160 + 128 ≤ 288 by omega⟩) (fun _ _ h _ => by obtain ⟨_, _, h, _⟩ := h; cases h) (fun q70 n71 f72 H locs hq70 h hw => ?_)
    obtain ⟨_, _, e9, h⟩ := h
    cases e9
    have hw : MW D [] [eI cI q4 ((128 : Int32).toNatClampNeg) f69, eI cI q70 n71 f72] (SA s.heap.size) s H locs := hw
    exact hret H locs ls 188 _ _ _ 1 _ _ _ hw rfl hq70 h (show 3 ≤ 3 by omega) (show 288 ≤ 288 by omega) dX11_oneWay_188)
  refine lv_if_eq (tgt := 29) hx hb dX11_oneWay_21 (by decide) (fun c73 => ?_) (fun c73 => ?_)
  · have h := h.1 c73
    refine lv_lload_n hx hb dX11_oneWay_29 rfl (lv_at hl 5 rfl) ?_
    exact h H locs ls hw (lv_sub hl [0, 1, 2, 3, 4, 5, 6, 7] rfl)
  have h := h.2 c73
  refine lv_lload hx hb dX11_oneWay_24 (lv_at hl 6 rfl) ?_
  refine lv_goto (tgt := 30) hx hb dX11_oneWay_26 (by decide) ?_
  exact h H locs ls hw (lv_sub hl [0, 1, 2, 3, 4, 5, 6, 7] rfl)
def wpl_X11_arrowsAll_7 (μ : TMem) (n6 : Nat) (v5 : Int32) (Q : Nat → (Nat → Int64) → Prop) : Nat → Int32 → (Nat → Int64) → Prop
  | 0, _, _ => False
  | n + 1, v4, f7 =>
    ((21 : Int32) ≤ v4 → (Q n6 f7)) ∧ (¬ (21 : Int32) ≤ v4 → (wp_X11_key v5 (0 : Int32) (0 : Int32) (fun (r9 : Int32) => vp_in (r9 + v4) (ml 4) ∧ (vp_in v4 n6 ∧ (wpl_X11_arrowsAll_7 μ n6 v5 Q n (v4 + (1 : Int32)) (vp_updL f7 v4.toNatClampNeg ((μ 4 (r9 + v4).toNatClampNeg).toInt64)))))))
def wp_X11_arrowsAll (μ : TMem) (a1 : Int32) (Q : Nat → (Nat → Int64) → Prop) : Prop :=
  (¬ (21 : Int32) < 0 ∧ (21 : Int32).toNatClampNeg ≤ 21) ∧ (∃ n2x, wpl_X11_arrowsAll_7 μ ((21 : Int32).toNatClampNeg) a1 Q n2x (0 : Int32) (fun _ => 0))
set_option maxHeartbeats 4000000 in
set_option maxRecDepth 100000 in
theorem c_X11_arrowsAll {l : Launch} {D : va_G} {ad : Nat → Nat} {cI cL : ClassId}  (μ : TMem) (sz : Nat) (a1 : Int32)  {Q : Nat → (Nat → Int64) → Prop} (h : wp_X11_arrowsAll μ a1 Q) : MML l yX11_arrowsAll (.code yX11_arrowsAll cX11_arrowsAll 4 (Option.some (Jvm.ClassFile.FieldType.array Jvm.ClassFile.FieldType.long))) 1 1 21 [.ref (ad 0), .int a1] D ad cI cL sz μ [] (fun o μ1 => μ1 = μ ∧ Q o.1 o.2) := by
  refine M_metL (by decide +kernel) (Nat.le_of_ble_eq_true rfl) ?_
  intro p e s m below meth c Z ls hx hb hml hown ht hK hP0 hI hne hw hret hl
  have hl : lv_has ls 4 [(0, .ref (ad 0)), (1, .int a1)] := hl
  suffices hh : ∀ (H : Heap) (locs : List Loc), MW D (MR ad cI μ) [] (MA ad s.heap.size) s H locs → W p l e (RA 1 1 21) s m #[.ref (ad 0), .int a1] below meth c H locs 0 0 Z (F0 m 0 ls []) from hh _ _ hw
  intro H locs hw
  change (¬ (21 : Int32) < 0 ∧ (21 : Int32).toNatClampNeg ≤ 21) ∧ (∃ n2x, wpl_X11_arrowsAll_7 μ ((21 : Int32).toNatClampNeg) a1 Q n2x (0 : Int32) (fun _ => 0)) at h
  refine lv_bipush (v := (21 : Int32)) hx hb dX11_arrowsAll_0 (by decide) ?_
  obtain ⟨z1, h⟩ := h
  refine n_newL (B := 21) hx hb ht q_1424 hK hw z1 (by decide) (show 0 + 1 ≤ 1 by omega) (show 0 + 21 ≤ 21 by omega) dX11_arrowsAll_2 (fun q2 H hq2 hw => ?_)
  have hw : MW D (MR ad cI μ) [eL cL q2 ((21 : Int32).toNatClampNeg) (fun _ => 0)] (MA ad s.heap.size) s H locs := hw
  refine lv_astore_n (lv' := [(2, .ref q2), (0, .ref (ad 0)), (1, .int a1)]) hx hb dX11_arrowsAll_4 rfl hl (by decide) rfl (fun ls hl => ?_)
  refine lv_iconst (v := (0 : Int32)) hx hb dX11_arrowsAll_5 (by decide) ?_
  refine lv_istore_n (lv' := [(3, .int (0 : Int32)), (2, .ref q2), (0, .ref (ad 0)), (1, .int a1)]) hx hb dX11_arrowsAll_6 rfl hl (by decide) rfl (fun ls hl => ?_)
  obtain ⟨n12, h⟩ := h
  have L2 : ∀ (n6 : Nat) (v5 : Int32), ∀ (n : Nat), ∀ (v4 : Int32) (f7 : Nat → Int64), ∀ (H : Heap) (locs : List Loc) (ls : Array Slot), MW D (MR ad cI μ) [eL cL q2 n6 f7] (MA ad s.heap.size) s H locs → lv_has ls 4 [(3, .int v4), (2, .ref q2), (0, .ref (ad 0)), (1, .int v5)] → wpl_X11_arrowsAll_7 μ n6 v5 Q n v4 f7 → W p l e (RA 1 1 21) s m #[.ref (ad 0), .int a1] below meth c H locs 1 21 Z (F0 m 7 ls []) := by
    intro n6 v5
    intro n
    induction n with
    | zero => intro v4 f7 H locs ls hw hl h; exact False.elim h
    | succ n ih2 =>
      intro v4 f7 H locs ls hw hl h
      change ((21 : Int32) ≤ v4 → (Q n6 f7)) ∧ (¬ (21 : Int32) ≤ v4 → (wp_X11_key v5 (0 : Int32) (0 : Int32) (fun (r9 : Int32) => vp_in (r9 + v4) (ml 4) ∧ (vp_in v4 n6 ∧ (wpl_X11_arrowsAll_7 μ n6 v5 Q n (v4 + (1 : Int32)) (vp_updL f7 v4.toNatClampNeg ((μ 4 (r9 + v4).toNatClampNeg).toInt64))))))) at h
      refine lv_iload_n hx hb dX11_arrowsAll_7 rfl (lv_at hl 0 rfl) ?_
      refine lv_bipush (v := (21 : Int32)) hx hb dX11_arrowsAll_8 (by decide) ?_
      refine lv_icmp_ge (tgt := 36) hx hb dX11_arrowsAll_10 (by decide) (fun c8 => ?_) (fun c8 => ?_)
      · have h := h.1 c8
        refine lv_aload_n hx hb dX11_arrowsAll_36 rfl (lv_at hl 1 rfl) ?_
        exact hret H locs ls 37 _ _ _ 0 _ _ _ _ hw rfl hq2 ⟨rfl, h⟩ (show 1 ≤ 1 by omega) (show 21 ≤ 21 by omega) dX11_arrowsAll_37
      have h := h.2 c8
      refine lv_aload_n hx hb dX11_arrowsAll_13 rfl (lv_at hl 1 rfl) ?_
      refine lv_iload_n hx hb dX11_arrowsAll_14 rfl (lv_at hl 0 rfl) ?_
      refine lv_aload_n hx hb dX11_arrowsAll_15 rfl (lv_at hl 2 rfl) ?_
      refine m_get (i := 3) hx hb ht hown hK hw (by decide) (ht _ q_1316) rfl rfl dX11_arrowsAll_16 ?_
      refine lv_iload_n hx hb dX11_arrowsAll_19 rfl (lv_at hl 3 rfl) ?_
      refine lv_iconst (v := (0 : Int32)) hx hb dX11_arrowsAll_20 (by decide) ?_
      refine lv_iconst (v := (0 : Int32)) hx hb dX11_arrowsAll_21 (by decide) ?_
      refine P_calli (va_runS (own := "LeastreaderModel") (As := [.int v5, .int (0 : Int32), .int (0 : Int32)]) (rest := [.ref (ad 4), .int v4, .ref q2]) ⟨hx, hb, hml, hown, ht⟩ (c_X11_key v5 (0 : Int32) (0 : Int32) h) (va_cwS 3 ht (G_S q_1360 q_1361 q_56 q_1362) rfl rfl rfl hd_79 ⟨Nat.le_of_ble_eq_true rfl, Nat.le_of_ble_eq_true rfl⟩) ⟨PM_blind, PM_pre⟩ rfl rfl hl.1 rfl (lv_room (Nat.le_of_ble_eq_true rfl)) dX11_arrowsAll_22 ⟨show 1 + 0 ≤ 1 by omega, show 21 + 0 ≤ 21 by omega⟩) (fun r9 h => ?_)
      refine lv_iload_n hx hb dX11_arrowsAll_25 rfl (lv_at hl 0 rfl) ?_
      refine lv_iadd hx hb dX11_arrowsAll_26 ?_
      obtain ⟨z10, h⟩ := h
      refine m_iald hx hb hK hw (by decide) z10 dX11_arrowsAll_27 ?_
      refine lv_i2l hx hb dX11_arrowsAll_28 rfl ?_
      obtain ⟨z11, h⟩ := h
      refine n_last (j := 0) hx hb hK hw rfl z11 dX11_arrowsAll_29 (fun H locs hw => ?_)
      have hw : MW D (MR ad cI μ) [eL cL q2 n6 (vp_updL f7 v4.toNatClampNeg ((μ 4 (r9 + v4).toNatClampNeg).toInt64))] (MA ad s.heap.size) s H locs := hw
      refine lv_iinc (v := (v4 + (1 : Int32))) (lv' := [(3, .int (v4 + (1 : Int32))), (2, .ref q2), (0, .ref (ad 0)), (1, .int v5)]) hx hb dX11_arrowsAll_30 hl (k := 0) rfl rfl (by decide) rfl (fun ls hl => ?_)
      refine lv_goto (tgt := 7) hx hb dX11_arrowsAll_33 (by decide) ?_
      exact ih2 (v4 + (1 : Int32)) (vp_updL f7 v4.toNatClampNeg ((μ 4 (r9 + v4).toNatClampNeg).toInt64)) H locs ls hw (lv_sub hl [0, 1, 2, 3] rfl) h
  exact L2 ((21 : Int32).toNatClampNeg) a1 n12 (0 : Int32) (fun _ => 0) H locs ls hw (lv_sub hl [0, 1, 2, 3] rfl) h
def wp_X11_oneWay_ (μ : TMem) (a1 : Int32) (Q : Option AI → Prop) : Prop :=
  wp_X11_arrowsAll μ a1 (fun (n4 : Nat) (f5 : Nat → Int64) => vp_in a1 (ml 1) ∧ (vp_in a1 (ml 2) ∧ (vp_in a1 (ml 3) ∧ (wp_X11_oneWay n4 f5 (μ 1 a1.toNatClampNeg) ((μ 2 a1.toNatClampNeg).toInt64) ((μ 3 a1.toNatClampNeg).toInt64) (0 : Int32) (fun (r12 : Option AI) => (r12 = none → (Q none)) ∧ (∀ (n10 : Nat) (f11 : Nat → Int32), r12 = some (n10, f11) → (Q (some (n10, f11)))))))))
set_option maxHeartbeats 4000000 in
set_option maxRecDepth 100000 in
theorem c_X11_oneWay_ {l : Launch} {D : va_G} {ad : Nat → Nat} {cI cL : ClassId}  (μ : TMem) (sz : Nat) (a1 : Int32)  {Q : Option AI → Prop} (h : wp_X11_oneWay_ μ a1 Q) : MMA l yX11_oneWay_ (.code yX11_oneWay_ cX11_oneWay_ 2 (Option.some (Jvm.ClassFile.FieldType.array Jvm.ClassFile.FieldType.int))) 2 4 309 [.ref (ad 0), .int a1] D ad cI cL sz μ [] (fun o μ1 => μ1 = μ ∧ Q o) := by
  refine M_metA (by decide +kernel) (Nat.le_of_ble_eq_true rfl) ?_
  intro p e s m below meth c Z ls hx hb hml hown ht hK hP0 hI hne hw hret hretN hl
  have hl : lv_has ls 2 [(0, .ref (ad 0)), (1, .int a1)] := hl
  suffices hh : ∀ (H : Heap) (locs : List Loc), MW D (MR ad cI μ) [] (MA ad s.heap.size) s H locs → W p l e (RA 2 4 309) s m #[.ref (ad 0), .int a1] below meth c H locs 0 0 Z (F0 m 0 ls []) from hh _ _ hw
  intro H locs hw
  change wp_X11_arrowsAll μ a1 (fun (n4 : Nat) (f5 : Nat → Int64) => vp_in a1 (ml 1) ∧ (vp_in a1 (ml 2) ∧ (vp_in a1 (ml 3) ∧ (wp_X11_oneWay n4 f5 (μ 1 a1.toNatClampNeg) ((μ 2 a1.toNatClampNeg).toInt64) ((μ 3 a1.toNatClampNeg).toInt64) (0 : Int32) (fun (r12 : Option AI) => (r12 = none → (Q none)) ∧ (∀ (n10 : Nat) (f11 : Nat → Int32), r12 = some (n10, f11) → (Q (some (n10, f11))))))))) at h
  refine lv_aload_n hx hb dX11_oneWay__0 rfl (lv_at hl 0 rfl) ?_
  refine lv_iload_n hx hb dX11_oneWay__1 rfl (lv_at hl 1 rfl) ?_
  refine M_callL hw (MA.up hw.2.2.1.1) (va_runV (own := "LeastreaderModel") (As := [.int a1]) (rest := []) ⟨hx, hb, hml, hown, ht⟩ (c_X11_arrowsAll μ H.size a1 h) (cwV 1 ht (G_V q_1417 q_1419 q_33 q_56 q_1420) rfl rfl rfl ⟨rfl, hd_82⟩ ⟨Nat.le_of_ble_eq_true rfl, Nat.le_of_ble_eq_true rfl⟩) ⟨MB.blind, M_recv hK hw, MB.pre hK hI hw va_P0 ne0⟩ rfl rfl hl.1 rfl (lv_room (Nat.le_of_ble_eq_true rfl)) dX11_oneWay__2 ⟨show 0 + 1 ≤ 4 by omega, show 0 + 21 ≤ 309 by omega⟩) (fun q3 n4 f5 μ1 H locs hq3 h hw => ?_)
  obtain ⟨e2, h⟩ := h
  rw [e2] at hw
  have hw : MW D (MR ad cI μ) [eL cL q3 n4 f5] (MA ad s.heap.size) s H locs := hw
  refine lv_aload_n hx hb dX11_oneWay__5 rfl (lv_at hl 0 rfl) ?_
  refine m_get (i := 0) hx hb ht hown hK hw (by decide) (ht _ q_1313) rfl rfl dX11_oneWay__6 ?_
  refine lv_iload_n hx hb dX11_oneWay__9 rfl (lv_at hl 1 rfl) ?_
  obtain ⟨z6, h⟩ := h
  refine m_iald hx hb hK hw (by decide) z6 dX11_oneWay__10 ?_
  refine lv_aload_n hx hb dX11_oneWay__11 rfl (lv_at hl 0 rfl) ?_
  refine m_get (i := 1) hx hb ht hown hK hw (by decide) (ht _ q_1314) rfl rfl dX11_oneWay__12 ?_
  refine lv_iload_n hx hb dX11_oneWay__15 rfl (lv_at hl 1 rfl) ?_
  obtain ⟨z7, h⟩ := h
  refine m_iald hx hb hK hw (by decide) z7 dX11_oneWay__16 ?_
  refine lv_i2l hx hb dX11_oneWay__17 rfl ?_
  refine lv_aload_n hx hb dX11_oneWay__18 rfl (lv_at hl 0 rfl) ?_
  refine m_get (i := 2) hx hb ht hown hK hw (by decide) (ht _ q_1315) rfl rfl dX11_oneWay__19 ?_
  refine lv_iload_n hx hb dX11_oneWay__22 rfl (lv_at hl 1 rfl) ?_
  obtain ⟨z8, h⟩ := h
  refine m_iald hx hb hK hw (by decide) z8 dX11_oneWay__23 ?_
  refine lv_i2l hx hb dX11_oneWay__24 rfl ?_
  refine lv_iconst (v := (0 : Int32)) hx hb dX11_oneWay__25 (by decide) ?_
  refine S_callA hw (va_runS (own := "LeastreaderModel") (As := [.ref q3, .int (μ 1 a1.toNatClampNeg), .long ((μ 2 a1.toNatClampNeg).toInt64), .long ((μ 3 a1.toNatClampNeg).toInt64), .int (0 : Int32)]) (rest := []) ⟨hx, hb, hml, hown, ht⟩ (c_X11_oneWay q3 H.size n4 f5 (μ 1 a1.toNatClampNeg) ((μ 2 a1.toNatClampNeg).toInt64) ((μ 3 a1.toNatClampNeg).toInt64) (0 : Int32) h) (va_cwS 5 ht (G_S q_1460 q_1461 q_56 q_1462) rfl rfl rfl hd_83 ⟨Nat.le_of_ble_eq_true rfl, Nat.le_of_ble_eq_true rfl⟩) ⟨SB.blind, SB.pre hK (va_Pc2 (hw.n (j := 0) rfl) va_P0)⟩ rfl rfl hl.1 rfl (lv_room (Nat.le_of_ble_eq_true rfl)) dX11_oneWay__26 ⟨show 1 + 3 ≤ 4 by omega, show 21 + 288 ≤ 309 by omega⟩) (fun H locs h hw => ?_) (fun q9 n10 f11 H locs hq9 h hw => ?_)
  · skip
    have h := h.1 rfl
    exact hretN H locs ls 29 _ _ _ _ hw ⟨rfl, h⟩ (show 4 ≤ 4 by omega) (show 309 ≤ 309 by omega) dX11_oneWay__29
  have h := h.2 _ _ rfl
  have hw : MW D (MR ad cI μ) [eL cL q3 n4 f5, eI cI q9 n10 f11] (MA ad s.heap.size) s H locs := hw
  exact hret H locs ls 29 _ _ _ 1 _ _ _ _ hw rfl hq9 ⟨rfl, h⟩ (show 4 ≤ 4 by omega) (show 309 ≤ 309 by omega) dX11_oneWay__29
def wpl_X11_isLike_19 (fa1 : Nat → Int32) (na1 : Nat) (fa2 : Nat → Int32) (na2 : Nat) (v8 : Int32) (v9 : Int32) (Q : Int32 → Prop) : Nat → Int32 → Int32 → Prop
  | 0, _, _ => False
  | n + 1, v6, v7 =>
    ((3 : Int32) ≤ v6 → (isB v7 ∧ (Q v7))) ∧ (¬ (3 : Int32) ≤ v6 → (vp_in (((4 : Int32) * v8) + v6) na1 ∧ (vp_in (fa1 (((4 : Int32) * v8) + v6).toNatClampNeg) na2 ∧ (vp_in (((4 : Int32) * v9) + v6) na1 ∧ (vp_in (fa1 (((4 : Int32) * v9) + v6).toNatClampNeg) na2 ∧ ((¬ (fa2 (fa1 (((4 : Int32) * v8) + v6).toNatClampNeg).toNatClampNeg) = (fa2 (fa1 (((4 : Int32) * v9) + v6).toNatClampNeg).toNatClampNeg) → (wpl_X11_isLike_19 fa1 na1 fa2 na2 v8 v9 Q n (v6 + (1 : Int32)) (v7 &&& (0 : Int32)))) ∧ ((fa2 (fa1 (((4 : Int32) * v8) + v6).toNatClampNeg).toNatClampNeg) = (fa2 (fa1 (((4 : Int32) * v9) + v6).toNatClampNeg).toNatClampNeg) → (wpl_X11_isLike_19 fa1 na1 fa2 na2 v8 v9 Q n (v6 + (1 : Int32)) (v7 &&& (1 : Int32))))))))))
def wp_X11_isLike (na1 : Nat) (fa1 : Nat → Int32) (na2 : Nat) (fa2 : Nat → Int32) (a3 : Int32) (a4 : Int32) (Q : Int32 → Prop) : Prop :=
  vp_in a3 na2 ∧ (vp_in a4 na2 ∧ (∀ J3 : Int32 → Prop, (∀ (j4 : Int32), (∃ n4x, wpl_X11_isLike_19 fa1 na1 fa2 na2 a3 a4 Q n4x (0 : Int32) j4) → J3 j4) → ((¬ (fa2 a3.toNatClampNeg) = (fa2 a4.toNatClampNeg) → (J3 (0 : Int32))) ∧ ((fa2 a3.toNatClampNeg) = (fa2 a4.toNatClampNeg) → (J3 (1 : Int32))))))
set_option maxHeartbeats 4000000 in
set_option maxRecDepth 100000 in
theorem c_X11_isLike {l : Launch} {D : va_G} {cI cL : ClassId} (qa1 : Nat) (qa2 : Nat)  (sz : Nat) (na1 : Nat) (fa1 : Nat → Int32) (na2 : Nat) (fa2 : Nat → Int32) (a3 : Int32) (a4 : Int32)  {Q : Int32 → Prop} (h : wp_X11_isLike na1 fa1 na2 fa2 a3 a4 Q) : SMi l yX11_isLike (.code yX11_isLike cX11_isLike 6 (Option.some Jvm.ClassFile.FieldType.boolean)) 0 0 0 [.ref qa1, .ref qa2, .int a3, .int a4] D cI cL sz [eI cI qa1 na1 fa1, eI cI qa2 na2 fa2] Q := by
  refine S_meti (by decide +kernel) (Nat.le_of_ble_eq_true rfl) ?_
  intro p e s m below meth c Z ls hx hb hml hown ht hK hP0 hw hret hl
  have hl : lv_has ls 6 [(0, .ref qa1), (1, .ref qa2), (2, .int a3), (3, .int a4)] := hl
  have hL0 := va_Ph hP0
  have hB0 : ¬ SA s.heap.size qa1 := fun z => absurd hL0.lt (Nat.not_lt.mpr z)
  have hL1 := va_Ph (va_Pt hP0)
  have hB1 : ¬ SA s.heap.size qa2 := fun z => absurd hL1.lt (Nat.not_lt.mpr z)
  suffices hh : ∀ (H : Heap) (locs : List Loc), MW D [] [] (SA s.heap.size) s H locs → W p l e (RA 0 0 0) s m #[.ref qa1, .ref qa2, .int a3, .int a4] below meth c H locs 0 0 Z (F0 m 0 ls []) from hh _ _ hw
  intro H locs hw
  change vp_in a3 na2 ∧ (vp_in a4 na2 ∧ (∀ J3 : Int32 → Prop, (∀ (j4 : Int32), (∃ n4x, wpl_X11_isLike_19 fa1 na1 fa2 na2 a3 a4 Q n4x (0 : Int32) j4) → J3 j4) → ((¬ (fa2 a3.toNatClampNeg) = (fa2 a4.toNatClampNeg) → (J3 (0 : Int32))) ∧ ((fa2 a3.toNatClampNeg) = (fa2 a4.toNatClampNeg) → (J3 (1 : Int32)))))) at h
  refine lv_aload_n hx hb dX11_isLike_0 rfl (lv_at hl 1 rfl) ?_
  refine lv_iload_n hx hb dX11_isLike_1 rfl (lv_at hl 2 rfl) ?_
  obtain ⟨z1, h⟩ := h
  refine n_iald hx hb hK (hw.arg hL1 hB1) z1 dX11_isLike_2 ?_
  refine lv_aload_n hx hb dX11_isLike_3 rfl (lv_at hl 1 rfl) ?_
  refine lv_iload_n hx hb dX11_isLike_4 rfl (lv_at hl 3 rfl) ?_
  obtain ⟨z2, h⟩ := h
  refine n_iald hx hb hK (hw.arg hL1 hB1) z2 dX11_isLike_5 ?_
  have h := h (fun (j4 : Int32) => ∀ (H : Heap) (locs : List Loc) (ls : Array Slot), MW D [] [] (SA s.heap.size) s H locs → lv_has ls 6 [(0, .ref qa1), (1, .ref qa2), (2, .int a3), (3, .int a4)] → W p l e (RA 0 0 0) s m #[.ref qa1, .ref qa2, .int a3, .int a4] below meth c H locs 0 0 Z (F0 m 14 ls [.int j4])) (fun j4 h H locs ls hw hl => by
    refine lv_istore (lv' := [(4, .int j4), (0, .ref qa1), (1, .ref qa2), (2, .int a3), (3, .int a4)]) hx hb dX11_isLike_14 hl (by decide) rfl (fun ls hl => ?_)
    refine lv_iconst (v := (0 : Int32)) hx hb dX11_isLike_16 (by decide) ?_
    refine lv_istore (lv' := [(5, .int (0 : Int32)), (4, .int j4), (0, .ref qa1), (1, .ref qa2), (2, .int a3), (3, .int a4)]) hx hb dX11_isLike_17 hl (by decide) rfl (fun ls hl => ?_)
    obtain ⟨n17, h⟩ := h
    have L4 : ∀ (v8 : Int32) (v9 : Int32), ∀ (n : Nat), ∀ (v6 : Int32) (v7 : Int32), ∀ (H : Heap) (locs : List Loc) (ls : Array Slot), MW D [] [] (SA s.heap.size) s H locs → lv_has ls 6 [(5, .int v6), (4, .int v7), (0, .ref qa1), (1, .ref qa2), (2, .int v8), (3, .int v9)] → wpl_X11_isLike_19 fa1 na1 fa2 na2 v8 v9 Q n v6 v7 → W p l e (RA 0 0 0) s m #[.ref qa1, .ref qa2, .int a3, .int a4] below meth c H locs 0 0 Z (F0 m 19 ls []) := by
      intro v8 v9
      intro n
      induction n with
      | zero => intro v6 v7 H locs ls hw hl h; exact False.elim h
      | succ n ih4 =>
        intro v6 v7 H locs ls hw hl h
        change ((3 : Int32) ≤ v6 → (isB v7 ∧ (Q v7))) ∧ (¬ (3 : Int32) ≤ v6 → (vp_in (((4 : Int32) * v8) + v6) na1 ∧ (vp_in (fa1 (((4 : Int32) * v8) + v6).toNatClampNeg) na2 ∧ (vp_in (((4 : Int32) * v9) + v6) na1 ∧ (vp_in (fa1 (((4 : Int32) * v9) + v6).toNatClampNeg) na2 ∧ ((¬ (fa2 (fa1 (((4 : Int32) * v8) + v6).toNatClampNeg).toNatClampNeg) = (fa2 (fa1 (((4 : Int32) * v9) + v6).toNatClampNeg).toNatClampNeg) → (wpl_X11_isLike_19 fa1 na1 fa2 na2 v8 v9 Q n (v6 + (1 : Int32)) (v7 &&& (0 : Int32)))) ∧ ((fa2 (fa1 (((4 : Int32) * v8) + v6).toNatClampNeg).toNatClampNeg) = (fa2 (fa1 (((4 : Int32) * v9) + v6).toNatClampNeg).toNatClampNeg) → (wpl_X11_isLike_19 fa1 na1 fa2 na2 v8 v9 Q n (v6 + (1 : Int32)) (v7 &&& (1 : Int32)))))))))) at h
        refine lv_iload hx hb dX11_isLike_19 (lv_at hl 0 rfl) ?_
        refine lv_iconst (v := (3 : Int32)) hx hb dX11_isLike_21 (by decide) ?_
        refine lv_icmp_ge (tgt := 64) hx hb dX11_isLike_22 (by decide) (fun c10 => ?_) (fun c10 => ?_)
        · have h := h.1 c10
          refine lv_iload hx hb dX11_isLike_64 (lv_at hl 1 rfl) ?_
          obtain ⟨z11, h⟩ := h
          exact hret H locs ls 66 _ _ _ _ hw h (isB_n z11) (show 0 ≤ 0 by omega) (show 0 ≤ 0 by omega) dX11_isLike_66
        have h := h.2 c10
        refine lv_iload hx hb dX11_isLike_25 (lv_at hl 1 rfl) ?_
        refine lv_aload_n hx hb dX11_isLike_27 rfl (lv_at hl 3 rfl) ?_
        refine lv_aload_n hx hb dX11_isLike_28 rfl (lv_at hl 2 rfl) ?_
        refine lv_iconst (v := (4 : Int32)) hx hb dX11_isLike_29 (by decide) ?_
        refine lv_iload_n hx hb dX11_isLike_30 rfl (lv_at hl 4 rfl) ?_
        refine lv_imul hx hb dX11_isLike_31 ?_
        refine lv_iload hx hb dX11_isLike_32 (lv_at hl 0 rfl) ?_
        refine lv_iadd hx hb dX11_isLike_34 ?_
        obtain ⟨z12, h⟩ := h
        refine n_iald hx hb hK (hw.arg hL0 hB0) z12 dX11_isLike_35 ?_
        obtain ⟨z13, h⟩ := h
        refine n_iald hx hb hK (hw.arg hL1 hB1) z13 dX11_isLike_36 ?_
        refine lv_aload_n hx hb dX11_isLike_37 rfl (lv_at hl 3 rfl) ?_
        refine lv_aload_n hx hb dX11_isLike_38 rfl (lv_at hl 2 rfl) ?_
        refine lv_iconst (v := (4 : Int32)) hx hb dX11_isLike_39 (by decide) ?_
        refine lv_iload_n hx hb dX11_isLike_40 rfl (lv_at hl 5 rfl) ?_
        refine lv_imul hx hb dX11_isLike_41 ?_
        refine lv_iload hx hb dX11_isLike_42 (lv_at hl 0 rfl) ?_
        refine lv_iadd hx hb dX11_isLike_44 ?_
        obtain ⟨z14, h⟩ := h
        refine n_iald hx hb hK (hw.arg hL0 hB0) z14 dX11_isLike_45 ?_
        obtain ⟨z15, h⟩ := h
        refine n_iald hx hb hK (hw.arg hL1 hB1) z15 dX11_isLike_46 ?_
        refine lv_icmp_ne (tgt := 54) hx hb dX11_isLike_47 (by decide) (fun c16 => ?_) (fun c16 => ?_)
        · have h := h.1 c16
          refine lv_iconst (v := (0 : Int32)) hx hb dX11_isLike_54 (by decide) ?_
          refine lv_iand hx hb dX11_isLike_55 ?_
          refine lv_istore (lv' := [(4, .int (v7 &&& (0 : Int32))), (5, .int v6), (0, .ref qa1), (1, .ref qa2), (2, .int v8), (3, .int v9)]) hx hb dX11_isLike_56 hl (by decide) rfl (fun ls hl => ?_)
          refine lv_iinc (v := (v6 + (1 : Int32))) (lv' := [(5, .int (v6 + (1 : Int32))), (4, .int (v7 &&& (0 : Int32))), (0, .ref qa1), (1, .ref qa2), (2, .int v8), (3, .int v9)]) hx hb dX11_isLike_58 hl (k := 1) rfl rfl (by decide) rfl (fun ls hl => ?_)
          refine lv_goto (tgt := 19) hx hb dX11_isLike_61 (by decide) ?_
          exact ih4 (v6 + (1 : Int32)) (v7 &&& (0 : Int32)) H locs ls hw (lv_sub hl [0, 1, 2, 3, 4, 5] rfl) h
        have h := h.2 c16
        refine lv_iconst (v := (1 : Int32)) hx hb dX11_isLike_50 (by decide) ?_
        refine lv_goto (tgt := 55) hx hb dX11_isLike_51 (by decide) ?_
        refine lv_iand hx hb dX11_isLike_55 ?_
        refine lv_istore (lv' := [(4, .int (v7 &&& (1 : Int32))), (5, .int v6), (0, .ref qa1), (1, .ref qa2), (2, .int v8), (3, .int v9)]) hx hb dX11_isLike_56 hl (by decide) rfl (fun ls hl => ?_)
        refine lv_iinc (v := (v6 + (1 : Int32))) (lv' := [(5, .int (v6 + (1 : Int32))), (4, .int (v7 &&& (1 : Int32))), (0, .ref qa1), (1, .ref qa2), (2, .int v8), (3, .int v9)]) hx hb dX11_isLike_58 hl (k := 1) rfl rfl (by decide) rfl (fun ls hl => ?_)
        refine lv_goto (tgt := 19) hx hb dX11_isLike_61 (by decide) ?_
        exact ih4 (v6 + (1 : Int32)) (v7 &&& (1 : Int32)) H locs ls hw (lv_sub hl [0, 1, 2, 3, 4, 5] rfl) h
    exact L4 a3 a4 n17 (0 : Int32) j4 H locs ls hw (lv_sub hl [0, 1, 2, 3, 4, 5] rfl) h)
  refine lv_icmp_ne (tgt := 13) hx hb dX11_isLike_6 (by decide) (fun c18 => ?_) (fun c18 => ?_)
  · have h := h.1 c18
    refine lv_iconst (v := (0 : Int32)) hx hb dX11_isLike_13 (by decide) ?_
    exact h H locs ls hw (lv_sub hl [0, 1, 2, 3] rfl)
  have h := h.2 c18
  refine lv_iconst (v := (1 : Int32)) hx hb dX11_isLike_9 (by decide) ?_
  refine lv_goto (tgt := 14) hx hb dX11_isLike_10 (by decide) ?_
  exact h H locs ls hw (lv_sub hl [0, 1, 2, 3] rfl)
