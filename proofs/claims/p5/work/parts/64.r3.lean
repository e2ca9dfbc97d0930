def wpl_X11_alike_11 (fa1 : Nat → Int32) (na1 : Nat) (n6 : Nat) (v5 : Int32) (K32 : (Nat → Int32) → Prop) : Nat → Int32 → (Nat → Int32) → Prop
  | 0, _, _ => False
  | n + 1, v4, f7 =>
    (v5 ≤ v4 → (K32 f7)) ∧ (¬ v5 ≤ v4 → (vp_in (((4 : Int32) * v4) + (3 : Int32)) na1 ∧ (vp_in v4 n6 ∧ (wpl_X11_alike_11 fa1 na1 n6 v5 K32 n (v4 + (1 : Int32)) (upd f7 v4.toNatClampNeg (fa1 (((4 : Int32) * v4) + (3 : Int32)).toNatClampNeg))))))
def wpl_X11_alike_56 (fa1 : Nat → Int32) (na1 : Nat) (f17 : Nat → Int32) (n16 : Nat) (f27 : Nat → Int32) (n26 : Nat) (v31 : Int32) (v32 : Int32) (v33 : Int32) (K74 : Int32 → Prop) : Nat → Int32 → Prop
  | 0, _ => False
  | n + 1, v30 =>
    wp_X11_isLike na1 fa1 n16 f17 v30 v31 (fun (r34 : Int32) => (¬ r34 = 0 → (K74 v30)) ∧ (r34 = 0 → (wpl_X11_alike_56 fa1 na1 f17 n16 f27 n26 v31 v32 v33 K74 n (v30 + (1 : Int32)))))
def wpl_X11_alike_47 (fa1 : Nat → Int32) (na1 : Nat) (f17 : Nat → Int32) (n16 : Nat) (n26 : Nat) (v24 : Int32) (v25 : Int32) (K87 : (Nat → Int32) → Prop) : Nat → Int32 → (Nat → Int32) → Prop
  | 0, _, _ => False
  | n + 1, v23, f27 =>
    (v25 ≤ v23 → (K87 f27)) ∧ (¬ v25 ≤ v23 → (∃ n28x, wpl_X11_alike_56 fa1 na1 f17 n16 f27 n26 v23 v24 v25 (fun (u37 : Int32) => vp_in v23 n26 ∧ (wpl_X11_alike_47 fa1 na1 f17 n16 n26 v24 v25 K87 n (v23 + (1 : Int32)) (upd f27 v23.toNatClampNeg u37))) n28x (0 : Int32)))
def wpl_X11_alike_34 (fa1 : Nat → Int32) (na1 : Nat) (v18 : Int32) (Q : Nat → (Nat → Int32) → Prop) : Nat → Int32 → Nat → (Nat → Int32) → Prop
  | 0, _, _, _ => False
  | n + 1, v14, n16, f17 =>
    (v18 ≤ v14 → (Q n16 f17)) ∧ (¬ v18 ≤ v14 → ((¬ v18 < 0 ∧ v18.toNatClampNeg ≤ 32) ∧ (∃ n21x, wpl_X11_alike_47 fa1 na1 f17 n16 v18.toNatClampNeg v14 v18 (fun (f40 : Nat → Int32) => wpl_X11_alike_34 fa1 na1 v18 Q n (v14 + (1 : Int32)) v18.toNatClampNeg f40) n21x (0 : Int32) (fun _ => 0))))
def wp_X11_alike (na1 : Nat) (fa1 : Nat → Int32) (Q : Nat → (Nat → Int32) → Prop) : Prop :=
  (¬ ((nI na1) / (4 : Int32)) < 0 ∧ ((nI na1) / (4 : Int32)).toNatClampNeg ≤ 32) ∧ (∃ n2x, wpl_X11_alike_11 fa1 na1 (((nI na1) / (4 : Int32)).toNatClampNeg) ((nI na1) / (4 : Int32)) (fun (f12 : Nat → Int32) => ∃ n12x, n12x ≤ 33 ∧ wpl_X11_alike_34 fa1 na1 ((nI na1) / (4 : Int32)) Q n12x (0 : Int32) (((nI na1) / (4 : Int32)).toNatClampNeg) f12) n2x (0 : Int32) (fun _ => 0))
set_option maxHeartbeats 4000000 in
set_option maxRecDepth 100000 in
theorem c_X11_alike {l : Launch} {D : va_G} {cI cL : ClassId} (qa1 : Nat)  (sz : Nat) (na1 : Nat) (fa1 : Nat → Int32)  {Q : Nat → (Nat → Int32) → Prop} (h : wp_X11_alike na1 fa1 Q) : SMA l yX11_alike (.code yX11_alike cX11_alike 7 (Option.some (Jvm.ClassFile.FieldType.array Jvm.ClassFile.FieldType.int))) 1 34 1088 [.ref qa1] D cI cL sz [eI cI qa1 na1 fa1] (fun o => ∃ n f, o = some (n, f) ∧ Q n f) := by
  refine S_metA (by decide +kernel) (Nat.le_of_ble_eq_true rfl) ?_
  intro p e s m below meth c Z ls hx hb hml hown ht hK hP0 hw hret hretN hl
  have hl : lv_has ls 7 [(0, .ref qa1)] := hl
  have hL0 := va_Ph hP0
  have hB0 : ¬ SA s.heap.size qa1 := fun z => absurd hL0.lt (Nat.not_lt.mpr z)
  suffices hh : ∀ (H : Heap) (locs : List Loc), MW D [] [] (SA s.heap.size) s H locs → W p l e (RA 1 34 1088) s m #[.ref qa1] below meth c H locs 0 0 Z (F0 m 0 ls []) from hh _ _ hw
  intro H locs hw
  change (¬ ((nI na1) / (4 : Int32)) < 0 ∧ ((nI na1) / (4 : Int32)).toNatClampNeg ≤ 32) ∧ (∃ n2x, wpl_X11_alike_11 fa1 na1 (((nI na1) / (4 : Int32)).toNatClampNeg) ((nI na1) / (4 : Int32)) (fun (f12 : Nat → Int32) => ∃ n12x, n12x ≤ 33 ∧ wpl_X11_alike_34 fa1 na1 ((nI na1) / (4 : Int32)) Q n12x (0 : Int32) (((nI na1) / (4 : Int32)).toNatClampNeg) f12) n2x (0 : Int32) (fun _ => 0)) at h
  refine lv_aload_n hx hb dX11_alike_0 rfl (lv_at hl 0 rfl) ?_
  refine n_alenI hx hb hK (hw.arg hL0 hB0) dX11_alike_1 ?_
  refine lv_iconst (v := (4 : Int32)) hx hb dX11_alike_2 (by decide) ?_
  refine lv_idiv hx hb dX11_alike_3 (by decide) ?_
  refine lv_istore_n (lv' := [(1, .int ((nI na1) / (4 : Int32))), (0, .ref qa1)]) hx hb dX11_alike_4 rfl hl (by decide) rfl (fun ls hl => ?_)
  refine lv_iload_n hx hb dX11_alike_5 rfl (lv_at hl 0 rfl) ?_
  obtain ⟨z1, h⟩ := h
  refine n_newI (B := 32) hx hb ht q_128 hK hw z1 (by decide) (show 0 + 1 ≤ 34 by omega) (show 0 + 32 ≤ 1088 by omega) dX11_alike_6 (fun q2 H hq2 hw => ?_)
  have hw : MW D [] [eI cI q2 (((nI na1) / (4 : Int32)).toNatClampNeg) (fun _ => 0)] (SA s.heap.size) s H locs := hw
  refine lv_astore_n (lv' := [(2, .ref q2), (1, .int ((nI na1) / (4 : Int32))), (0, .ref qa1)]) hx hb dX11_alike_8 rfl hl (by decide) rfl (fun ls hl => ?_)
  refine lv_iconst (v := (0 : Int32)) hx hb dX11_alike_9 (by decide) ?_
  refine lv_istore_n (lv' := [(3, .int (0 : Int32)), (2, .ref q2), (1, .int ((nI na1) / (4 : Int32))), (0, .ref qa1)]) hx hb dX11_alike_10 rfl hl (by decide) rfl (fun ls hl => ?_)
  obtain ⟨n11, h⟩ := h
  have L2 : ∀ (n6 : Nat) (v5 : Int32) (K32 : (Nat → Int32) → Prop), (∀ (f7 : Nat → Int32), ∀ (H : Heap) (locs : List Loc) (ls : Array Slot), MW D [] [eI cI q2 n6 f7] (SA s.heap.size) s H locs → lv_has ls 7 [(2, .ref q2), (1, .int v5), (0, .ref qa1)] → K32 f7 → W p l e (RA 1 34 1088) s m #[.ref qa1] below meth c H locs 1 32 Z (F0 m 32 ls [])) → ∀ (n : Nat), ∀ (v4 : Int32) (f7 : Nat → Int32), ∀ (H : Heap) (locs : List Loc) (ls : Array Slot), MW D [] [eI cI q2 n6 f7] (SA s.heap.size) s H locs → lv_has ls 7 [(3, .int v4), (2, .ref q2), (1, .int v5), (0, .ref qa1)] → wpl_X11_alike_11 fa1 na1 n6 v5 K32 n v4 f7 → W p l e (RA 1 34 1088) s m #[.ref qa1] below meth c H locs 1 32 Z (F0 m 11 ls []) := by
    intro n6 v5 K32 hK32
    intro n
    induction n with
    | zero => intro v4 f7 H locs ls hw hl h; exact False.elim h
    | succ n ih2 =>
      intro v4 f7 H locs ls hw hl h
      change (v5 ≤ v4 → (K32 f7)) ∧ (¬ v5 ≤ v4 → (vp_in (((4 : Int32) * v4) + (3 : Int32)) na1 ∧ (vp_in v4 n6 ∧ (wpl_X11_alike_11 fa1 na1 n6 v5 K32 n (v4 + (1 : Int32)) (upd f7 v4.toNatClampNeg (fa1 (((4 : Int32) * v4) + (3 : Int32)).toNatClampNeg)))))) at h
      refine lv_iload_n hx hb dX11_alike_11 rfl (lv_at hl 0 rfl) ?_
      refine lv_iload_n hx hb dX11_alike_12 rfl (lv_at hl 2 rfl) ?_
      refine lv_icmp_ge (tgt := 32) hx hb dX11_alike_13 (by decide) (fun c8 => ?_) (fun c8 => ?_)
      · have h := h.1 c8
        exact hK32 f7 H locs ls hw (lv_sub hl [1, 2, 3] rfl) h
      have h := h.2 c8
      refine lv_aload_n hx hb dX11_alike_16 rfl (lv_at hl 1 rfl) ?_
      refine lv_iload_n hx hb dX11_alike_17 rfl (lv_at hl 0 rfl) ?_
      refine lv_aload_n hx hb dX11_alike_18 rfl (lv_at hl 3 rfl) ?_
      refine lv_iconst (v := (4 : Int32)) hx hb dX11_alike_19 (by decide) ?_
      refine lv_iload_n hx hb dX11_alike_20 rfl (lv_at hl 0 rfl) ?_
      refine lv_imul hx hb dX11_alike_21 ?_
      refine lv_iconst (v := (3 : Int32)) hx hb dX11_alike_22 (by decide) ?_
      refine lv_iadd hx hb dX11_alike_23 ?_
      obtain ⟨z9, h⟩ := h
      refine n_iald hx hb hK (hw.arg hL0 hB0) z9 dX11_alike_24 ?_
      obtain ⟨z10, h⟩ := h
      refine n_iast (j := 0) hx hb hK hw rfl z10 dX11_alike_25 (fun H locs hw => ?_)
      have hw : MW D [] [eI cI q2 n6 (upd f7 v4.toNatClampNeg (fa1 (((4 : Int32) * v4) + (3 : Int32)).toNatClampNeg))] (SA s.heap.size) s H locs := hw
      refine lv_iinc (v := (v4 + (1 : Int32))) (lv' := [(3, .int (v4 + (1 : Int32))), (2, .ref q2), (1, .int v5), (0, .ref qa1)]) hx hb dX11_alike_26 hl (k := 0) rfl rfl (by decide) rfl (fun ls hl => ?_)
      refine lv_goto (tgt := 11) hx hb dX11_alike_29 (by decide) ?_
      exact ih2 (v4 + (1 : Int32)) (upd f7 v4.toNatClampNeg (fa1 (((4 : Int32) * v4) + (3 : Int32)).toNatClampNeg)) H locs ls hw (lv_sub hl [0, 1, 2, 3] rfl) h
  refine L2 (((nI na1) / (4 : Int32)).toNatClampNeg) ((nI na1) / (4 : Int32)) _ ?_ n11 (0 : Int32) (fun _ => 0) H locs ls hw (lv_sub hl [0, 1, 2, 3] rfl) h
  intro f12 H locs ls hw hl h
  refine lv_iconst (v := (0 : Int32)) hx hb dX11_alike_32 (by decide) ?_
  refine lv_istore_n (lv' := [(3, .int (0 : Int32)), (2, .ref q2), (1, .int ((nI na1) / (4 : Int32))), (0, .ref qa1)]) hx hb dX11_alike_33 rfl hl (by decide) rfl (fun ls hl => ?_)
  obtain ⟨n41, n41b, h⟩ := h
  have L12 : ∀ (v18 : Int32), ∀ (n : Nat) (cv12 sv12 : Nat), cv12 + n * 1 ≤ 34 → sv12 + n * 32 ≤ 1088 → ∀ (v14 : Int32) (q15 : Nat) (n16 : Nat) (f17 : Nat → Int32), s.heap.size ≤ q15 → ∀ (H : Heap) (locs : List Loc) (ls : Array Slot), MW D [] [eI cI q15 n16 f17] (SA s.heap.size) s H locs → lv_has ls 7 [(3, .int v14), (2, .ref q15), (1, .int v18), (0, .ref qa1)] → wpl_X11_alike_34 fa1 na1 v18 Q n v14 n16 f17 → W p l e (RA 1 34 1088) s m #[.ref qa1] below meth c H locs cv12 sv12 Z (F0 m 34 ls []) := by
    intro v18
    intro n
    induction n with
    | zero => intro cv12 sv12 hcv12 hsv12 v14 q15 n16 f17 hq15 H locs ls hw hl h; exact False.elim h
    | succ n ih12 =>
      intro cv12 sv12 hcv12 hsv12 v14 q15 n16 f17 hq15 H locs ls hw hl h
      change (v18 ≤ v14 → (Q n16 f17)) ∧ (¬ v18 ≤ v14 → ((¬ v18 < 0 ∧ v18.toNatClampNeg ≤ 32) ∧ (∃ n21x, wpl_X11_alike_47 fa1 na1 f17 n16 v18.toNatClampNeg v14 v18 (fun (f40 : Nat → Int32) => wpl_X11_alike_34 fa1 na1 v18 Q n (v14 + (1 : Int32)) v18.toNatClampNeg f40) n21x (0 : Int32) (fun _ => 0)))) at h
      refine lv_iload_n hx hb dX11_alike_34 rfl (lv_at hl 0 rfl) ?_
      refine lv_iload_n hx hb dX11_alike_35 rfl (lv_at hl 2 rfl) ?_
      refine lv_icmp_ge (tgt := 96) hx hb dX11_alike_36 (by decide) (fun c19 => ?_) (fun c19 => ?_)
      · have h := h.1 c19
        refine lv_aload_n hx hb dX11_alike_96 rfl (lv_at hl 1 rfl) ?_
        exact hret H locs ls 97 _ _ _ 0 _ _ _ hw rfl hq15 ⟨_, _, rfl, h⟩ (show cv12 ≤ 34 by omega) (show sv12 ≤ 1088 by omega) dX11_alike_97
      have h := h.2 c19
      refine lv_iload_n hx hb dX11_alike_39 rfl (lv_at hl 2 rfl) ?_
      obtain ⟨z20, h⟩ := h
      refine n_newI (B := 32) hx hb ht q_128 hK hw z20 (by decide) (show cv12 + 1 ≤ 34 by omega) (show sv12 + 32 ≤ 1088 by omega) dX11_alike_40 (fun q21 H hq21 hw => ?_)
      have hw : MW D [] [eI cI q15 n16 f17, eI cI q21 v18.toNatClampNeg (fun _ => 0)] (SA s.heap.size) s H locs := hw
      refine lv_astore (lv' := [(4, .ref q21), (3, .int v14), (2, .ref q15), (1, .int v18), (0, .ref qa1)]) hx hb dX11_alike_42 hl (by decide) rfl (fun ls hl => ?_)
      refine lv_iconst (v := (0 : Int32)) hx hb dX11_alike_44 (by decide) ?_
      refine lv_istore (lv' := [(5, .int (0 : Int32)), (4, .ref q21), (3, .int v14), (2, .ref q15), (1, .int v18), (0, .ref qa1)]) hx hb dX11_alike_45 hl (by decide) rfl (fun ls hl => ?_)
      obtain ⟨n39, h⟩ := h
      have L21 : ∀ (n26 : Nat) (v24 : Int32) (v25 : Int32) (K87 : (Nat → Int32) → Prop), (∀ (f27 : Nat → Int32), ∀ (H : Heap) (locs : List Loc) (ls : Array Slot), MW D [] [eI cI q21 n26 f27] (SA s.heap.size) s H locs → lv_has ls 7 [(4, .ref q21), (3, .int v24), (1, .int v25), (0, .ref qa1)] → K87 f27 → W p l e (RA 1 34 1088) s m #[.ref qa1] below meth c H locs (cv12 + 1) (sv12 + 32) Z (F0 m 87 ls [])) → ∀ (n : Nat), ∀ (v23 : Int32) (f27 : Nat → Int32), ∀ (H : Heap) (locs : List Loc) (ls : Array Slot), MW D [] [eI cI q15 n16 f17, eI cI q21 n26 f27] (SA s.heap.size) s H locs → lv_has ls 7 [(5, .int v23), (4, .ref q21), (3, .int v24), (2, .ref q15), (1, .int v25), (0, .ref qa1)] → wpl_X11_alike_47 fa1 na1 f17 n16 n26 v24 v25 K87 n v23 f27 → W p l e (RA 1 34 1088) s m #[.ref qa1] below meth c H locs (cv12 + 1) (sv12 + 32) Z (F0 m 47 ls []) := by
        intro n26 v24 v25 K87 hK87
        intro n
        induction n with
        | zero => intro v23 f27 H locs ls hw hl h; exact False.elim h
        | succ n ih21 =>
          intro v23 f27 H locs ls hw hl h
          change (v25 ≤ v23 → (K87 f27)) ∧ (¬ v25 ≤ v23 → (∃ n28x, wpl_X11_alike_56 fa1 na1 f17 n16 f27 n26 v23 v24 v25 (fun (u37 : Int32) => vp_in v23 n26 ∧ (wpl_X11_alike_47 fa1 na1 f17 n16 n26 v24 v25 K87 n (v23 + (1 : Int32)) (upd f27 v23.toNatClampNeg u37))) n28x (0 : Int32))) at h
          refine lv_iload hx hb dX11_alike_47 (lv_at hl 0 rfl) ?_
          refine lv_iload_n hx hb dX11_alike_49 rfl (lv_at hl 4 rfl) ?_
          refine lv_icmp_ge (tgt := 87) hx hb dX11_alike_50 (by decide) (fun c28 => ?_) (fun c28 => ?_)
          · have h := h.1 c28
            exact hK87 f27 H locs ls (hw.sub [1] (by decide) rfl) (lv_sub hl [1, 2, 4, 5] rfl) h
          have h := h.2 c28
          refine lv_iconst (v := (0 : Int32)) hx hb dX11_alike_53 (by decide) ?_
          refine lv_istore (lv' := [(6, .int (0 : Int32)), (5, .int v23), (4, .ref q21), (3, .int v24), (2, .ref q15), (1, .int v25), (0, .ref qa1)]) hx hb dX11_alike_54 hl (by decide) rfl (fun ls hl => ?_)
          obtain ⟨n36, h⟩ := h
          have L28 : ∀ (v31 : Int32) (v32 : Int32) (v33 : Int32) (K74 : Int32 → Prop), (∀ (v30 : Int32), ∀ (H : Heap) (locs : List Loc) (ls : Array Slot), MW D [] [eI cI q15 n16 f17, eI cI q21 n26 f27] (SA s.heap.size) s H locs → lv_has ls 7 [(6, .int v30), (5, .int v31), (4, .ref q21), (3, .int v32), (2, .ref q15), (1, .int v33), (0, .ref qa1)] → K74 v30 → W p l e (RA 1 34 1088) s m #[.ref qa1] below meth c H locs (cv12 + 1) (sv12 + 32) Z (F0 m 74 ls [])) → ∀ (n : Nat), ∀ (v30 : Int32), ∀ (H : Heap) (locs : List Loc) (ls : Array Slot), MW D [] [eI cI q15 n16 f17, eI cI q21 n26 f27] (SA s.heap.size) s H locs → lv_has ls 7 [(6, .int v30), (5, .int v31), (4, .ref q21), (3, .int v32), (2, .ref q15), (1, .int v33), (0, .ref qa1)] → wpl_X11_alike_56 fa1 na1 f17 n16 f27 n26 v31 v32 v33 K74 n v30 → W p l e (RA 1 34 1088) s m #[.ref qa1] below meth c H locs (cv12 + 1) (sv12 + 32) Z (F0 m 56 ls []) := by
            intro v31 v32 v33 K74 hK74
            intro n
            induction n with
            | zero => intro v30 H locs ls hw hl h; exact False.elim h
            | succ n ih28 =>
              intro v30 H locs ls hw hl h
              change wp_X11_isLike na1 fa1 n16 f17 v30 v31 (fun (r34 : Int32) => (¬ r34 = 0 → (K74 v30)) ∧ (r34 = 0 → (wpl_X11_alike_56 fa1 na1 f17 n16 f27 n26 v31 v32 v33 K74 n (v30 + (1 : Int32))))) at h
              refine lv_aload_n hx hb dX11_alike_56 rfl (lv_at hl 6 rfl) ?_
              refine lv_aload_n hx hb dX11_alike_57 rfl (lv_at hl 4 rfl) ?_
              refine lv_iload hx hb dX11_alike_58 (lv_at hl 0 rfl) ?_
              refine lv_iload hx hb dX11_alike_60 (lv_at hl 1 rfl) ?_
              refine S_calli hw (va_runS (own := "LeastreaderModel") (As := [.ref qa1, .ref q15, .int v30, .int v31]) (rest := []) ⟨hx, hb, hml, hown, ht⟩ (c_X11_isLike qa1 q15 H.size na1 fa1 n16 f17 v30 v31 h) (va_cwS 4 ht (G_S q_1476 q_1477 q_56 q_1478) rfl rfl rfl hd_84 ⟨Nat.le_of_ble_eq_true rfl, Nat.le_of_ble_eq_true rfl⟩) ⟨SB.blind, SB.pre hK (va_Pc2 (hw.arg hL0 hB0) (va_Pc2 (hw.n (j := 0) rfl) va_P0))⟩ rfl rfl hl.1 rfl (lv_room (Nat.le_of_ble_eq_true rfl)) dX11_alike_62 ⟨show cv12 + 1 + 0 ≤ 34 by omega, show sv12 + 32 + 0 ≤ 1088 by omega⟩) (fun r34 H locs h hw => ?_)
              refine lv_if_ne (tgt := 74) hx hb dX11_alike_65 (by decide) (fun c35 => ?_) (fun c35 => ?_)
              · have h := h.1 c35
                exact hK74 v30 H locs ls hw (lv_sub hl [0, 1, 2, 3, 4, 5, 6] rfl) h
              have h := h.2 c35
              refine lv_iinc (v := (v30 + (1 : Int32))) (lv' := [(6, .int (v30 + (1 : Int32))), (5, .int v31), (4, .ref q21), (3, .int v32), (2, .ref q15), (1, .int v33), (0, .ref qa1)]) hx hb dX11_alike_68 hl (k := 0) rfl rfl (by decide) rfl (fun ls hl => ?_)
              refine lv_goto (tgt := 56) hx hb dX11_alike_71 (by decide) ?_
              exact ih28 (v30 + (1 : Int32)) H locs ls hw (lv_sub hl [0, 1, 2, 3, 4, 5, 6] rfl) h
          refine L28 v23 v24 v25 _ ?_ n36 (0 : Int32) H locs ls hw (lv_sub hl [0, 1, 2, 3, 4, 5, 6] rfl) h
          intro u37 H locs ls hw hl h
          refine lv_aload hx hb dX11_alike_74 (lv_at hl 2 rfl) ?_
          refine lv_iload hx hb dX11_alike_76 (lv_at hl 1 rfl) ?_
          refine lv_iload hx hb dX11_alike_78 (lv_at hl 0 rfl) ?_
          obtain ⟨z38, h⟩ := h
          refine n_iast (j := 1) hx hb hK hw rfl z38 dX11_alike_80 (fun H locs hw => ?_)
          have hw : MW D [] [eI cI q15 n16 f17, eI cI q21 n26 (upd f27 v23.toNatClampNeg u37)] (SA s.heap.size) s H locs := hw
          refine lv_iinc (v := (v23 + (1 : Int32))) (lv' := [(5, .int (v23 + (1 : Int32))), (6, .int u37), (4, .ref q21), (3, .int v24), (2, .ref q15), (1, .int v25), (0, .ref qa1)]) hx hb dX11_alike_81 hl (k := 1) rfl rfl (by decide) rfl (fun ls hl => ?_)
          refine lv_goto (tgt := 47) hx hb dX11_alike_84 (by decide) ?_
          exact ih21 (v23 + (1 : Int32)) (upd f27 v23.toNatClampNeg u37) H locs ls hw (lv_sub hl [0, 2, 3, 4, 5, 6] rfl) h
      refine L21 v18.toNatClampNeg v14 v18 _ ?_ n39 (0 : Int32) (fun _ => 0) H locs ls hw (lv_sub hl [0, 1, 2, 3, 4, 5] rfl) h
      intro f40 H locs ls hw hl h
      refine lv_aload hx hb dX11_alike_87 (lv_at hl 0 rfl) ?_
      refine lv_astore_n (lv' := [(2, .ref q21), (4, .ref q21), (3, .int v14), (1, .int v18), (0, .ref qa1)]) hx hb dX11_alike_89 rfl hl (by decide) rfl (fun ls hl => ?_)
      refine lv_iinc (v := (v14 + (1 : Int32))) (lv' := [(3, .int (v14 + (1 : Int32))), (2, .ref q21), (4, .ref q21), (1, .int v18), (0, .ref qa1)]) hx hb dX11_alike_90 hl (k := 2) rfl rfl (by decide) rfl (fun ls hl => ?_)
      refine lv_goto (tgt := 34) hx hb dX11_alike_93 (by decide) ?_
      exact ih12 (cv12 + 1) (sv12 + 32) (by omega) (by omega) (v14 + (1 : Int32)) q21 v18.toNatClampNeg f40 hq21 H locs ls hw (lv_sub hl [0, 1, 3, 4] rfl) h
  exact L12 ((nI na1) / (4 : Int32)) n41 1 32 (by omega) (by omega) (0 : Int32) q2 (((nI na1) / (4 : Int32)).toNatClampNeg) f12 hq2 H locs ls hw (lv_sub hl [0, 1, 2, 3] rfl) h
def wpl_X11_least_77 (fa1 : Nat → Int32) (na1 : Nat) (f3 : Nat → Int32) (n2 : Nat) (f23 : Nat → Int32) (n11 : Nat) (f24 : Nat → Int32) (n13 : Nat) (v30 : Int32) (v31 : Int32) (v32 : Int32) (v33 : Int32) (K103 : Int32 → Prop) : Nat → Int32 → Prop
  | 0, _ => False
  | n + 1, v29 =>
    (v33 ≤ v29 → (K103 v29)) ∧ (¬ v33 ≤ v29 → (vp_in v29 n11 ∧ (vp_in (f23 v29.toNatClampNeg) n2 ∧ (vp_in v30 n2 ∧ (((f3 (f23 v29.toNatClampNeg).toNatClampNeg) = (f3 v30.toNatClampNeg) → (K103 v29)) ∧ (¬ (f3 (f23 v29.toNatClampNeg).toNatClampNeg) = (f3 v30.toNatClampNeg) → (wpl_X11_least_77 fa1 na1 f3 n2 f23 n11 f24 n13 v30 v31 v32 v33 K103 n (v29 + (1 : Int32)))))))))
def wpl_X11_least_55 (fa1 : Nat → Int32) (na1 : Nat) (f3 : Nat → Int32) (n2 : Nat) (n11 : Nat) (n13 : Nat) (v21 : Int32) (K136 : Int32 → (Nat → Int32) → (Nat → Int32) → Prop) : Nat → Int32 → Int32 → (Nat → Int32) → (Nat → Int32) → Prop
  | 0, _, _, _, _ => False
  | n + 1, v20, v22, f23, f24 =>
    ((3 : Int32) ≤ v20 → (K136 v22 f23 f24)) ∧ (¬ (3 : Int32) ≤ v20 → (vp_in v21 n11 ∧ (vp_in (((4 : Int32) * (f23 v21.toNatClampNeg)) + v20) na1 ∧ (∃ n27x, wpl_X11_least_77 fa1 na1 f3 n2 f23 n11 f24 n13 (fa1 (((4 : Int32) * (f23 v21.toNatClampNeg)) + v20).toNatClampNeg) v20 v21 v22 (fun (u40 : Int32) => ∀ J41 : Int32 → (Nat → Int32) → Prop, (∀ (j42 : Int32) (f43 : Nat → Int32), (vp_in (((4 : Int32) * v21) + v20) n13 ∧ (wpl_X11_least_55 fa1 na1 f3 n2 n11 n13 v21 K136 n (v20 + (1 : Int32)) j42 f43 (upd f24 (((4 : Int32) * v21) + v20).toNatClampNeg u40))) → J41 j42 f43) → ((¬ u40 = v22 → (J41 v22 f23)) ∧ (u40 = v22 → (vp_in v22 n11 ∧ (J41 (v22 + (1 : Int32)) (upd f23 v22.toNatClampNeg (fa1 (((4 : Int32) * (f23 v21.toNatClampNeg)) + v20).toNatClampNeg))))))) n27x (0 : Int32)))))
def wpl_X11_least_27 (fa1 : Nat → Int32) (na1 : Nat) (f3 : Nat → Int32) (n2 : Nat) (n11 : Nat) (n13 : Nat) (K142 : Int32 → (Nat → Int32) → Prop) : Nat → Int32 → Int32 → (Nat → Int32) → (Nat → Int32) → Prop
  | 0, _, _, _, _ => False
  | n + 1, v9, v10, f14, f12 =>
    (v10 ≤ v9 → (K142 v10 f14)) ∧ (¬ v10 ≤ v9 → (vp_in v9 n11 ∧ (vp_in (((4 : Int32) * (f12 v9.toNatClampNeg)) + (3 : Int32)) na1 ∧ (vp_in (((4 : Int32) * v9) + (3 : Int32)) n13 ∧ (∃ n18x, wpl_X11_least_55 fa1 na1 f3 n2 n11 n13 v9 (fun (u48 : Int32) (f49 : Nat → Int32) (f50 : Nat → Int32) => wpl_X11_least_27 fa1 na1 f3 n2 n11 n13 K142 n (v9 + (1 : Int32)) u48 f50 f49) n18x (0 : Int32) v10 f12 (upd f14 (((4 : Int32) * v9) + (3 : Int32)).toNatClampNeg (fa1 (((4 : Int32) * (f12 v9.toNatClampNeg)) + (3 : Int32)).toNatClampNeg)))))))
def wp_X11_least (na1 : Nat) (fa1 : Nat → Int32) (Q : Option AI → Prop) : Prop :=
  wp_X11_alike na1 fa1 (fun (n2 : Nat) (f3 : Nat → Int32) => (¬ (nI n2) < 0 ∧ (nI n2).toNatClampNeg ≤ 32) ∧ ((¬ (nI na1) < 0 ∧ (nI na1).toNatClampNeg ≤ 128) ∧ (∃ n7x, wpl_X11_least_27 fa1 na1 f3 n2 ((nI n2).toNatClampNeg) ((nI na1).toNatClampNeg) (fun (u52 : Int32) (f53 : Nat → Int32) => wp_X11_part ((nI na1).toNatClampNeg) f53 ((4 : Int32) * u52) (fun (n55 : Nat) (f56 : Nat → Int32) => Q (some (n55, f56)))) n7x (0 : Int32) (1 : Int32) (fun _ => 0) (fun _ => 0))))
set_option maxHeartbeats 4000000 in
set_option maxRecDepth 100000 in
theorem c_X11_least {l : Launch} {D : va_G} {cI cL : ClassId} (qa1 : Nat)  (sz : Nat) (na1 : Nat) (fa1 : Nat → Int32)  {Q : Option AI → Prop} (h : wp_X11_least na1 fa1 Q) : SMA l yX11_least (.code yX11_least cX11_least 9 (Option.some (Jvm.ClassFile.FieldType.array Jvm.ClassFile.FieldType.int))) 2 37 1376 [.ref qa1] D cI cL sz [eI cI qa1 na1 fa1] Q := by
  refine S_metA (by decide +kernel) (Nat.le_of_ble_eq_true rfl) ?_
  intro p e s m below meth c Z ls hx hb hml hown ht hK hP0 hw hret hretN hl
  have hl : lv_has ls 9 [(0, .ref qa1)] := hl
  have hL0 := va_Ph hP0
  have hB0 : ¬ SA s.heap.size qa1 := fun z => absurd hL0.lt (Nat.not_lt.mpr z)
  suffices hh : ∀ (H : Heap) (locs : List Loc), MW D [] [] (SA s.heap.size) s H locs → W p l e (RA 2 37 1376) s m #[.ref qa1] below meth c H locs 0 0 Z (F0 m 0 ls []) from hh _ _ hw
  intro H locs hw
  change wp_X11_alike na1 fa1 (fun (n2 : Nat) (f3 : Nat → Int32) => (¬ (nI n2) < 0 ∧ (nI n2).toNatClampNeg ≤ 32) ∧ ((¬ (nI na1) < 0 ∧ (nI na1).toNatClampNeg ≤ 128) ∧ (∃ n7x, wpl_X11_least_27 fa1 na1 f3 n2 ((nI n2).toNatClampNeg) ((nI na1).toNatClampNeg) (fun (u52 : Int32) (f53 : Nat → Int32) => wp_X11_part ((nI na1).toNatClampNeg) f53 ((4 : Int32) * u52) (fun (n55 : Nat) (f56 : Nat → Int32) => Q (some (n55, f56)))) n7x (0 : Int32) (1 : Int32) (fun _ => 0) (fun _ => 0)))) at h
  refine lv_aload_n hx hb dX11_least_0 rfl (lv_at hl 0 rfl) ?_
  refine lv_ifnonnull (tgt := 6) hx hb dX11_least_1 (by decide) ?_
  refine lv_aload_n hx hb dX11_least_6 rfl (lv_at hl 0 rfl) ?_
  refine S_callA hw (va_runS (own := "LeastreaderModel") (As := [.ref qa1]) (rest := []) ⟨hx, hb, hml, hown, ht⟩ (c_X11_alike qa1 H.size na1 fa1 h) (va_cwS 1 ht (G_S q_1473 q_1474 q_56 q_1475) rfl rfl rfl hd_85 ⟨Nat.le_of_ble_eq_true rfl, Nat.le_of_ble_eq_true rfl⟩) ⟨SB.blind, SB.pre hK (va_Pc2 (hw.arg hL0 hB0) va_P0)⟩ rfl rfl hl.1 rfl (lv_room (Nat.le_of_ble_eq_true rfl)) dX11_least_7 ⟨show 0 + 34 ≤ 37 by omega, show 0 + 1088 ≤ 1376 by omega⟩) (fun _ _ h _ => by obtain ⟨_, _, h, _⟩ := h; cases h) (fun q1 n2 f3 H locs hq1 h hw => ?_)
  obtain ⟨_, _, e9, h⟩ := h
  cases e9
  have hw : MW D [] [eI cI q1 n2 f3] (SA s.heap.size) s H locs := hw
  refine lv_astore_n (lv' := [(1, .ref q1), (0, .ref qa1)]) hx hb dX11_least_10 rfl hl (by decide) rfl (fun ls hl => ?_)
  refine lv_aload_n hx hb dX11_least_11 rfl (lv_at hl 0 rfl) ?_
  refine n_alenI hx hb hK (hw.n (j := 0) rfl) dX11_least_12 ?_
  obtain ⟨z4, h⟩ := h
  refine n_newI (B := 32) hx hb ht q_128 hK hw z4 (by decide) (show 34 + 1 ≤ 37 by omega) (show 1088 + 32 ≤ 1376 by omega) dX11_least_13 (fun q5 H hq5 hw => ?_)
  have hw : MW D [] [eI cI q1 n2 f3, eI cI q5 ((nI n2).toNatClampNeg) (fun _ => 0)] (SA s.heap.size) s H locs := hw
  refine lv_astore_n (lv' := [(2, .ref q5), (1, .ref q1), (0, .ref qa1)]) hx hb dX11_least_15 rfl hl (by decide) rfl (fun ls hl => ?_)
  refine lv_aload_n hx hb dX11_least_16 rfl (lv_at hl 2 rfl) ?_
  refine n_alenI hx hb hK (hw.arg hL0 hB0) dX11_least_17 ?_
  obtain ⟨z6, h⟩ := h
  refine n_newI (B := 128) hx hb ht q_128 hK hw z6 (by decide) (show 35 + 1 ≤ 37 by omega) (show 1120 + 128 ≤ 1376 by omega) dX11_least_18 (fun q7 H hq7 hw => ?_)
  have hw : MW D [] [eI cI q1 n2 f3, eI cI q5 ((nI n2).toNatClampNeg) (fun _ => 0), eI cI q7 ((nI na1).toNatClampNeg) (fun _ => 0)] (SA s.heap.size) s H locs := hw
  refine lv_astore_n (lv' := [(3, .ref q7), (2, .ref q5), (1, .ref q1), (0, .ref qa1)]) hx hb dX11_least_20 rfl hl (by decide) rfl (fun ls hl => ?_)
  refine lv_iconst (v := (1 : Int32)) hx hb dX11_least_21 (by decide) ?_
  refine lv_istore (lv' := [(4, .int (1 : Int32)), (3, .ref q7), (2, .ref q5), (1, .ref q1), (0, .ref qa1)]) hx hb dX11_least_22 hl (by decide) rfl (fun ls hl => ?_)
  refine lv_iconst (v := (0 : Int32)) hx hb dX11_least_24 (by decide) ?_
  refine lv_istore (lv' := [(5, .int (0 : Int32)), (4, .int (1 : Int32)), (3, .ref q7), (2, .ref q5), (1, .ref q1), (0, .ref qa1)]) hx hb dX11_least_25 hl (by decide) rfl (fun ls hl => ?_)
  obtain ⟨n51, h⟩ := h
  have L7 : ∀ (n11 : Nat) (n13 : Nat) (K142 : Int32 → (Nat → Int32) → Prop), (∀ (v10 : Int32) (f14 : Nat → Int32), ∀ (H : Heap) (locs : List Loc) (ls : Array Slot), MW D [] [eI cI q7 n13 f14] (SA s.heap.size) s H locs → lv_has ls 9 [(4, .int v10), (3, .ref q7)] → K142 v10 f14 → W p l e (RA 2 37 1376) s m #[.ref qa1] below meth c H locs 36 1248 Z (F0 m 142 ls [])) → ∀ (n : Nat), ∀ (v9 : Int32) (v10 : Int32) (f14 : Nat → Int32) (f12 : Nat → Int32), ∀ (H : Heap) (locs : List Loc) (ls : Array Slot), MW D [] [eI cI q1 n2 f3, eI cI q5 n11 f12, eI cI q7 n13 f14] (SA s.heap.size) s H locs → lv_has ls 9 [(5, .int v9), (4, .int v10), (3, .ref q7), (2, .ref q5), (1, .ref q1), (0, .ref qa1)] → wpl_X11_least_27 fa1 na1 f3 n2 n11 n13 K142 n v9 v10 f14 f12 → W p l e (RA 2 37 1376) s m #[.ref qa1] below meth c H locs 36 1248 Z (F0 m 27 ls []) := by
    intro n11 n13 K142 hK142
    intro n
    induction n with
    | zero => intro v9 v10 f14 f12 H locs ls hw hl h; exact False.elim h
    | succ n ih7 =>
      intro v9 v10 f14 f12 H locs ls hw hl h
      change (v10 ≤ v9 → (K142 v10 f14)) ∧ (¬ v10 ≤ v9 → (vp_in v9 n11 ∧ (vp_in (((4 : Int32) * (f12 v9.toNatClampNeg)) + (3 : Int32)) na1 ∧ (vp_in (((4 : Int32) * v9) + (3 : Int32)) n13 ∧ (∃ n18x, wpl_X11_least_55 fa1 na1 f3 n2 n11 n13 v9 (fun (u48 : Int32) (f49 : Nat → Int32) (f50 : Nat → Int32) => wpl_X11_least_27 fa1 na1 f3 n2 n11 n13 K142 n (v9 + (1 : Int32)) u48 f50 f49) n18x (0 : Int32) v10 f12 (upd f14 (((4 : Int32) * v9) + (3 : Int32)).toNatClampNeg (fa1 (((4 : Int32) * (f12 v9.toNatClampNeg)) + (3 : Int32)).toNatClampNeg))))))) at h
      refine lv_iload hx hb dX11_least_27 (lv_at hl 0 rfl) ?_
      refine lv_iload hx hb dX11_least_29 (lv_at hl 1 rfl) ?_
      refine lv_icmp_ge (tgt := 142) hx hb dX11_least_31 (by decide) (fun c15 => ?_) (fun c15 => ?_)
      · have h := h.1 c15
        exact hK142 v10 f14 H locs ls (hw.sub [2] (by decide) rfl) (lv_sub hl [1, 2] rfl) h
      have h := h.2 c15
      refine lv_aload_n hx hb dX11_least_34 rfl (lv_at hl 2 rfl) ?_
      refine lv_iconst (v := (4 : Int32)) hx hb dX11_least_35 (by decide) ?_
      refine lv_iload hx hb dX11_least_36 (lv_at hl 0 rfl) ?_
      refine lv_imul hx hb dX11_least_38 ?_
      refine lv_iconst (v := (3 : Int32)) hx hb dX11_least_39 (by decide) ?_
      refine lv_iadd hx hb dX11_least_40 ?_
      refine lv_aload_n hx hb dX11_least_41 rfl (lv_at hl 5 rfl) ?_
      refine lv_iconst (v := (4 : Int32)) hx hb dX11_least_42 (by decide) ?_
      refine lv_aload_n hx hb dX11_least_43 rfl (lv_at hl 3 rfl) ?_
      refine lv_iload hx hb dX11_least_44 (lv_at hl 0 rfl) ?_
      obtain ⟨z16, h⟩ := h
      refine n_iald hx hb hK (hw.n (j := 1) rfl) z16 dX11_least_46 ?_
      refine lv_imul hx hb dX11_least_47 ?_
      refine lv_iconst (v := (3 : Int32)) hx hb dX11_least_48 (by decide) ?_
      refine lv_iadd hx hb dX11_least_49 ?_
      obtain ⟨z17, h⟩ := h
      refine n_iald hx hb hK (hw.arg hL0 hB0) z17 dX11_least_50 ?_
      obtain ⟨z18, h⟩ := h
      refine n_iast (j := 2) hx hb hK hw rfl z18 dX11_least_51 (fun H locs hw => ?_)
      have hw : MW D [] [eI cI q1 n2 f3, eI cI q5 n11 f12, eI cI q7 n13 (upd f14 (((4 : Int32) * v9) + (3 : Int32)).toNatClampNeg (fa1 (((4 : Int32) * (f12 v9.toNatClampNeg)) + (3 : Int32)).toNatClampNeg))] (SA s.heap.size) s H locs := hw
      refine lv_iconst (v := (0 : Int32)) hx hb dX11_least_52 (by decide) ?_
      refine lv_istore (lv' := [(6, .int (0 : Int32)), (5, .int v9), (4, .int v10), (3, .ref q7), (2, .ref q5), (1, .ref q1), (0, .ref qa1)]) hx hb dX11_least_53 hl (by decide) rfl (fun ls hl => ?_)
      obtain ⟨n47, h⟩ := h
      have L18 : ∀ (v21 : Int32) (K136 : Int32 → (Nat → Int32) → (Nat → Int32) → Prop), (∀ (v22 : Int32) (f23 : Nat → Int32) (f24 : Nat → Int32), ∀ (H : Heap) (locs : List Loc) (ls : Array Slot), MW D [] [eI cI q1 n2 f3, eI cI q5 n11 f23, eI cI q7 n13 f24] (SA s.heap.size) s H locs → lv_has ls 9 [(5, .int v21), (4, .int v22), (3, .ref q7), (2, .ref q5), (1, .ref q1), (0, .ref qa1)] → K136 v22 f23 f24 → W p l e (RA 2 37 1376) s m #[.ref qa1] below meth c H locs 36 1248 Z (F0 m 136 ls [])) → ∀ (n : Nat), ∀ (v20 : Int32) (v22 : Int32) (f23 : Nat → Int32) (f24 : Nat → Int32), ∀ (H : Heap) (locs : List Loc) (ls : Array Slot), MW D [] [eI cI q1 n2 f3, eI cI q5 n11 f23, eI cI q7 n13 f24] (SA s.heap.size) s H locs → lv_has ls 9 [(6, .int v20), (5, .int v21), (4, .int v22), (3, .ref q7), (2, .ref q5), (1, .ref q1), (0, .ref qa1)] → wpl_X11_least_55 fa1 na1 f3 n2 n11 n13 v21 K136 n v20 v22 f23 f24 → W p l e (RA 2 37 1376) s m #[.ref qa1] below meth c H locs 36 1248 Z (F0 m 55 ls []) := by
        intro v21 K136 hK136
        intro n
        induction n with
        | zero => intro v20 v22 f23 f24 H locs ls hw hl h; exact False.elim h
        | succ n ih18 =>
          intro v20 v22 f23 f24 H locs ls hw hl h
          change ((3 : Int32) ≤ v20 → (K136 v22 f23 f24)) ∧ (¬ (3 : Int32) ≤ v20 → (vp_in v21 n11 ∧ (vp_in (((4 : Int32) * (f23 v21.toNatClampNeg)) + v20) na1 ∧ (∃ n27x, wpl_X11_least_77 fa1 na1 f3 n2 f23 n11 f24 n13 (fa1 (((4 : Int32) * (f23 v21.toNatClampNeg)) + v20).toNatClampNeg) v20 v21 v22 (fun (u40 : Int32) => ∀ J41 : Int32 → (Nat → Int32) → Prop, (∀ (j42 : Int32) (f43 : Nat → Int32), (vp_in (((4 : Int32) * v21) + v20) n13 ∧ (wpl_X11_least_55 fa1 na1 f3 n2 n11 n13 v21 K136 n (v20 + (1 : Int32)) j42 f43 (upd f24 (((4 : Int32) * v21) + v20).toNatClampNeg u40))) → J41 j42 f43) → ((¬ u40 = v22 → (J41 v22 f23)) ∧ (u40 = v22 → (vp_in v22 n11 ∧ (J41 (v22 + (1 : Int32)) (upd f23 v22.toNatClampNeg (fa1 (((4 : Int32) * (f23 v21.toNatClampNeg)) + v20).toNatClampNeg))))))) n27x (0 : Int32))))) at h
          refine lv_iload hx hb dX11_least_55 (lv_at hl 0 rfl) ?_
          refine lv_iconst (v := (3 : Int32)) hx hb dX11_least_57 (by decide) ?_
          refine lv_icmp_ge (tgt := 136) hx hb dX11_least_58 (by decide) (fun c25 => ?_) (fun c25 => ?_)
          · have h := h.1 c25
            exact hK136 v22 f23 f24 H locs ls hw (lv_sub hl [1, 2, 3, 4, 5, 6] rfl) h
          have h := h.2 c25
          refine lv_aload_n hx hb dX11_least_61 rfl (lv_at hl 6 rfl) ?_
          refine lv_iconst (v := (4 : Int32)) hx hb dX11_least_62 (by decide) ?_
          refine lv_aload_n hx hb dX11_least_63 rfl (lv_at hl 4 rfl) ?_
          refine lv_iload hx hb dX11_least_64 (lv_at hl 1 rfl) ?_
          obtain ⟨z26, h⟩ := h
          refine n_iald hx hb hK (hw.n (j := 1) rfl) z26 dX11_least_66 ?_
          refine lv_imul hx hb dX11_least_67 ?_
          refine lv_iload hx hb dX11_least_68 (lv_at hl 0 rfl) ?_
          refine lv_iadd hx hb dX11_least_70 ?_
          obtain ⟨z27, h⟩ := h
          refine n_iald hx hb hK (hw.arg hL0 hB0) z27 dX11_least_71 ?_
          refine lv_istore (lv' := [(7, .int (fa1 (((4 : Int32) * (f23 v21.toNatClampNeg)) + v20).toNatClampNeg)), (6, .int v20), (5, .int v21), (4, .int v22), (3, .ref q7), (2, .ref q5), (1, .ref q1), (0, .ref qa1)]) hx hb dX11_least_72 hl (by decide) rfl (fun ls hl => ?_)
          refine lv_iconst (v := (0 : Int32)) hx hb dX11_least_74 (by decide) ?_
          refine lv_istore (lv' := [(8, .int (0 : Int32)), (7, .int (fa1 (((4 : Int32) * (f23 v21.toNatClampNeg)) + v20).toNatClampNeg)), (6, .int v20), (5, .int v21), (4, .int v22), (3, .ref q7), (2, .ref q5), (1, .ref q1), (0, .ref qa1)]) hx hb dX11_least_75 hl (by decide) rfl (fun ls hl => ?_)
          obtain ⟨n39, h⟩ := h
          have L27 : ∀ (v30 : Int32) (v31 : Int32) (v32 : Int32) (v33 : Int32) (K103 : Int32 → Prop), (∀ (v29 : Int32), ∀ (H : Heap) (locs : List Loc) (ls : Array Slot), MW D [] [eI cI q1 n2 f3, eI cI q5 n11 f23, eI cI q7 n13 f24] (SA s.heap.size) s H locs → lv_has ls 9 [(8, .int v29), (7, .int v30), (6, .int v31), (5, .int v32), (4, .int v33), (3, .ref q7), (2, .ref q5), (1, .ref q1), (0, .ref qa1)] → K103 v29 → W p l e (RA 2 37 1376) s m #[.ref qa1] below meth c H locs 36 1248 Z (F0 m 103 ls [])) → ∀ (n : Nat), ∀ (v29 : Int32), ∀ (H : Heap) (locs : List Loc) (ls : Array Slot), MW D [] [eI cI q1 n2 f3, eI cI q5 n11 f23, eI cI q7 n13 f24] (SA s.heap.size) s H locs → lv_has ls 9 [(8, .int v29), (7, .int v30), (6, .int v31), (5, .int v32), (4, .int v33), (3, .ref q7), (2, .ref q5), (1, .ref q1), (0, .ref qa1)] → wpl_X11_least_77 fa1 na1 f3 n2 f23 n11 f24 n13 v30 v31 v32 v33 K103 n v29 → W p l e (RA 2 37 1376) s m #[.ref qa1] below meth c H locs 36 1248 Z (F0 m 77 ls []) := by
            intro v30 v31 v32 v33 K103 hK103
            intro n
            induction n with
            | zero => intro v29 H locs ls hw hl h; exact False.elim h
            | succ n ih27 =>
              intro v29 H locs ls hw hl h
              change (v33 ≤ v29 → (K103 v29)) ∧ (¬ v33 ≤ v29 → (vp_in v29 n11 ∧ (vp_in (f23 v29.toNatClampNeg) n2 ∧ (vp_in v30 n2 ∧ (((f3 (f23 v29.toNatClampNeg).toNatClampNeg) = (f3 v30.toNatClampNeg) → (K103 v29)) ∧ (¬ (f3 (f23 v29.toNatClampNeg).toNatClampNeg) = (f3 v30.toNatClampNeg) → (wpl_X11_least_77 fa1 na1 f3 n2 f23 n11 f24 n13 v30 v31 v32 v33 K103 n (v29 + (1 : Int32))))))))) at h
              refine lv_iload hx hb dX11_least_77 (lv_at hl 0 rfl) ?_
              refine lv_iload hx hb dX11_least_79 (lv_at hl 4 rfl) ?_
              refine lv_icmp_ge (tgt := 103) hx hb dX11_least_81 (by decide) (fun c34 => ?_) (fun c34 => ?_)
              · have h := h.1 c34
                exact hK103 v29 H locs ls hw (lv_sub hl [0, 1, 2, 3, 4, 5, 6, 7, 8] rfl) h
              have h := h.2 c34
              refine lv_aload_n hx hb dX11_least_84 rfl (lv_at hl 7 rfl) ?_
              refine lv_aload_n hx hb dX11_least_85 rfl (lv_at hl 6 rfl) ?_
              refine lv_iload hx hb dX11_least_86 (lv_at hl 0 rfl) ?_
              obtain ⟨z35, h⟩ := h
              refine n_iald hx hb hK (hw.n (j := 1) rfl) z35 dX11_least_88 ?_
              obtain ⟨z36, h⟩ := h
              refine n_iald hx hb hK (hw.n (j := 0) rfl) z36 dX11_least_89 ?_
              refine lv_aload_n hx hb dX11_least_90 rfl (lv_at hl 7 rfl) ?_
              refine lv_iload hx hb dX11_least_91 (lv_at hl 1 rfl) ?_
              obtain ⟨z37, h⟩ := h
              refine n_iald hx hb hK (hw.n (j := 0) rfl) z37 dX11_least_93 ?_
              refine lv_icmp_eq (tgt := 103) hx hb dX11_least_94 (by decide) (fun c38 => ?_) (fun c38 => ?_)
              · have h := h.1 c38
                exact hK103 v29 H locs ls hw (lv_sub hl [0, 1, 2, 3, 4, 5, 6, 7, 8] rfl) h
              have h := h.2 c38
              refine lv_iinc (v := (v29 + (1 : Int32))) (lv' := [(8, .int (v29 + (1 : Int32))), (7, .int v30), (6, .int v31), (5, .int v32), (4, .int v33), (3, .ref q7), (2, .ref q5), (1, .ref q1), (0, .ref qa1)]) hx hb dX11_least_97 hl (k := 0) rfl rfl (by decide) rfl (fun ls hl => ?_)
              refine lv_goto (tgt := 77) hx hb dX11_least_100 (by decide) ?_
              exact ih27 (v29 + (1 : Int32)) H locs ls hw (lv_sub hl [0, 1, 2, 3, 4, 5, 6, 7, 8] rfl) h
          refine L27 (fa1 (((4 : Int32) * (f23 v21.toNatClampNeg)) + v20).toNatClampNeg) v20 v21 v22 _ ?_ n39 (0 : Int32) H locs ls hw (lv_sub hl [0, 1, 2, 3, 4, 5, 6, 7, 8] rfl) h
          intro u40 H locs ls hw hl h
          refine lv_iload hx hb dX11_least_103 (lv_at hl 0 rfl) ?_
          refine lv_iload hx hb dX11_least_105 (lv_at hl 4 rfl) ?_
          have h := h (fun (j42 : Int32) (f43 : Nat → Int32) => ∀ (H : Heap) (locs : List Loc) (ls : Array Slot), MW D [] [eI cI q1 n2 f3, eI cI q5 n11 f43, eI cI q7 n13 f24] (SA s.heap.size) s H locs → lv_has ls 9 [(8, .int u40), (6, .int v20), (5, .int v21), (4, .int j42), (3, .ref q7), (2, .ref q5), (1, .ref q1), (0, .ref qa1)] → W p l e (RA 2 37 1376) s m #[.ref qa1] below meth c H locs 36 1248 Z (F0 m 119 ls [])) (fun j42 f43 h H locs ls hw hl => by
            refine lv_aload_n hx hb dX11_least_119 rfl (lv_at hl 4 rfl) ?_
            refine lv_iconst (v := (4 : Int32)) hx hb dX11_least_120 (by decide) ?_
            refine lv_iload hx hb dX11_least_121 (lv_at hl 2 rfl) ?_
            refine lv_imul hx hb dX11_least_123 ?_
            refine lv_iload hx hb dX11_least_124 (lv_at hl 1 rfl) ?_
            refine lv_iadd hx hb dX11_least_126 ?_
            refine lv_iload hx hb dX11_least_127 (lv_at hl 0 rfl) ?_
            obtain ⟨z44, h⟩ := h
            refine n_iast (j := 2) hx hb hK hw rfl z44 dX11_least_129 (fun H locs hw => ?_)
            have hw : MW D [] [eI cI q1 n2 f3, eI cI q5 n11 f43, eI cI q7 n13 (upd f24 (((4 : Int32) * v21) + v20).toNatClampNeg u40)] (SA s.heap.size) s H locs := hw
            refine lv_iinc (v := (v20 + (1 : Int32))) (lv' := [(6, .int (v20 + (1 : Int32))), (8, .int u40), (5, .int v21), (4, .int j42), (3, .ref q7), (2, .ref q5), (1, .ref q1), (0, .ref qa1)]) hx hb dX11_least_130 hl (k := 1) rfl rfl (by decide) rfl (fun ls hl => ?_)
            refine lv_goto (tgt := 55) hx hb dX11_least_133 (by decide) ?_
            exact ih18 (v20 + (1 : Int32)) j42 f43 (upd f24 (((4 : Int32) * v21) + v20).toNatClampNeg u40) H locs ls hw (lv_sub hl [0, 2, 3, 4, 5, 6, 7] rfl) h)
          refine lv_icmp_ne (tgt := 119) hx hb dX11_least_107 (by decide) (fun c45 => ?_) (fun c45 => ?_)
          · have h := h.1 c45
            exact h H locs ls hw (lv_sub hl [0, 2, 3, 4, 5, 6, 7, 8] rfl)
          have h := h.2 c45
          refine lv_aload_n hx hb dX11_least_110 rfl (lv_at hl 6 rfl) ?_
          refine lv_iload hx hb dX11_least_111 (lv_at hl 4 rfl) ?_
          refine lv_iinc (v := (v22 + (1 : Int32))) (lv' := [(4, .int (v22 + (1 : Int32))), (8, .int u40), (7, .int (fa1 (((4 : Int32) * (f23 v21.toNatClampNeg)) + v20).toNatClampNeg)), (6, .int v20), (5, .int v21), (3, .ref q7), (2, .ref q5), (1, .ref q1), (0, .ref qa1)]) hx hb dX11_least_113 hl (k := 4) rfl rfl (by decide) rfl (fun ls hl => ?_)
          refine lv_iload hx hb dX11_least_116 (lv_at hl 2 rfl) ?_
          obtain ⟨z46, h⟩ := h
          refine n_iast (j := 1) hx hb hK hw rfl z46 dX11_least_118 (fun H locs hw => ?_)
          have hw : MW D [] [eI cI q1 n2 f3, eI cI q5 n11 (upd f23 v22.toNatClampNeg (fa1 (((4 : Int32) * (f23 v21.toNatClampNeg)) + v20).toNatClampNeg)), eI cI q7 n13 f24] (SA s.heap.size) s H locs := hw
          exact h H locs ls hw (lv_sub hl [1, 3, 4, 0, 5, 6, 7, 8] rfl)
      refine L18 v9 _ ?_ n47 (0 : Int32) v10 f12 (upd f14 (((4 : Int32) * v9) + (3 : Int32)).toNatClampNeg (fa1 (((4 : Int32) * (f12 v9.toNatClampNeg)) + (3 : Int32)).toNatClampNeg)) H locs ls hw (lv_sub hl [0, 1, 2, 3, 4, 5, 6] rfl) h
      intro u48 f49 f50 H locs ls hw hl h
      refine lv_iinc (v := (v9 + (1 : Int32))) (lv' := [(5, .int (v9 + (1 : Int32))), (4, .int u48), (3, .ref q7), (2, .ref q5), (1, .ref q1), (0, .ref qa1)]) hx hb dX11_least_136 hl (k := 0) rfl rfl (by decide) rfl (fun ls hl => ?_)
      refine lv_goto (tgt := 27) hx hb dX11_least_139 (by decide) ?_
      exact ih7 (v9 + (1 : Int32)) u48 f50 f49 H locs ls hw (lv_sub hl [0, 1, 2, 3, 4, 5] rfl) h
  refine L7 ((nI n2).toNatClampNeg) ((nI na1).toNatClampNeg) _ ?_ n51 (0 : Int32) (1 : Int32) (fun _ => 0) (fun _ => 0) H locs ls hw (lv_sub hl [0, 1, 2, 3, 4, 5] rfl) h
  intro u52 f53 H locs ls hw hl h
  refine lv_aload_n hx hb dX11_least_142 rfl (lv_at hl 1 rfl) ?_
  refine lv_iconst (v := (4 : Int32)) hx hb dX11_least_143 (by decide) ?_
  refine lv_iload hx hb dX11_least_144 (lv_at hl 0 rfl) ?_
  refine lv_imul hx hb dX11_least_146 ?_
  refine S_callA hw (va_runS (own := "LeastreaderModel") (As := [.ref q7, .int ((4 : Int32) * u52)]) (rest := []) ⟨hx, hb, hml, hown, ht⟩ (c_X11_part q7 H.size ((nI na1).toNatClampNeg) f53 ((4 : Int32) * u52) h) (va_cwS 2 ht (G_S q_1463 q_1464 q_56 q_1465) rfl rfl rfl hd_81 ⟨Nat.le_of_ble_eq_true rfl, Nat.le_of_ble_eq_true rfl⟩) ⟨SB.blind, SB.pre hK (va_Pc2 (hw.n (j := 0) rfl) va_P0)⟩ rfl rfl hl.1 rfl (lv_room (Nat.le_of_ble_eq_true rfl)) dX11_least_147 ⟨show 36 + 1 ≤ 37 by omega, show 1248 + 128 ≤ 1376 by omega⟩) (fun _ _ h _ => by obtain ⟨_, _, h, _⟩ := h; cases h) (fun q54 n55 f56 H locs hq54 h hw => ?_)
  obtain ⟨_, _, e9, h⟩ := h
  cases e9
  have hw : MW D [] [eI cI q7 ((nI na1).toNatClampNeg) f53, eI cI q54 n55 f56] (SA s.heap.size) s H locs := hw
  exact hret H locs ls 150 _ _ _ 1 _ _ _ hw rfl hq54 h (show 37 ≤ 37 by omega) (show 1376 ≤ 1376 by omega) dX11_least_150
def wp_X11_least_n  (Q : Option AI → Prop) : Prop :=
  Q none
set_option maxHeartbeats 4000000 in
set_option maxRecDepth 100000 in
theorem c_X11_least_n {l : Launch} {D : va_G} {cI cL : ClassId}   (sz : Nat)   {Q : Option AI → Prop} (h : wp_X11_least_n Q) : SMA l yX11_least (.code yX11_least cX11_least 9 (Option.some (Jvm.ClassFile.FieldType.array Jvm.ClassFile.FieldType.int))) 2 0 0 [.null] D cI cL sz [] Q := by
  refine S_metA (by decide +kernel) (Nat.le_of_ble_eq_true rfl) ?_
  intro p e s m below meth c Z ls hx hb hml hown ht hK hP0 hw hret hretN hl
  have hl : lv_has ls 9 [(0, .null)] := hl
  suffices hh : ∀ (H : Heap) (locs : List Loc), MW D [] [] (SA s.heap.size) s H locs → W p l e (RA 2 0 0) s m #[.null] below meth c H locs 0 0 Z (F0 m 0 ls []) from hh _ _ hw
  intro H locs hw
  change Q none at h
  refine lv_aload_nN hx hb dX11_least_0 rfl (lv_at hl 0 rfl) ?_
  refine lv_ifnonnullN hx hb dX11_least_1 ?_
  refine lv_null hx hb dX11_least_4 ?_
  exact hretN H locs ls 5 _ _ _ hw h (show 0 ≤ 0 by omega) (show 0 ≤ 0 by omega) dX11_least_5
def wpl_X11_turnedTwice_63 (μ : TMem) (n18 : Nat) (f11 : Nat → Int32) (n10 : Nat) (v23 : Int32) (v24 : Int64) (v25 : Int32) (K96 : (Nat → Int64) → Prop) : Nat → Int32 → (Nat → Int64) → Prop
  | 0, _, _ => False
  | n + 1, v22, f26 =>
    ((3 : Int32) ≤ v22 → (K96 f26)) ∧ (¬ (3 : Int32) ≤ v22 → (vp_in (((4 : Int32) * v23) + v22) n10 ∧ (vp_in (((3 : Int32) * v23) + v22) n18 ∧ (wpl_X11_turnedTwice_63 μ n18 f11 n10 v23 v24 v25 K96 n (v22 + (1 : Int32)) (vp_updL f26 (((3 : Int32) * v23) + v22).toNatClampNeg ((1 : Int64) <<< ((f11 (((4 : Int32) * v23) + v22).toNatClampNeg).toInt64 &&& 63)))))))
def wpl_X11_turnedTwice_54 (μ : TMem) (n18 : Nat) (f11 : Nat → Int32) (n10 : Nat) (v17 : Int32) (K123 : Int64 → (Nat → Int64) → Prop) : Nat → Int32 → Int64 → (Nat → Int64) → Prop
  | 0, _, _, _ => False
  | n + 1, v15, v16, f19 =>
    (v17 ≤ v15 → (K123 v16 f19)) ∧ (¬ v17 ≤ v15 → (∃ n20x, wpl_X11_turnedTwice_63 μ n18 f11 n10 v15 v16 v17 (fun (f31 : Nat → Int64) => vp_in (((4 : Int32) * v15) + (3 : Int32)) n10 ∧ ((¬ (f11 (((4 : Int32) * v15) + (3 : Int32)).toNatClampNeg) = (1 : Int32) → (wpl_X11_turnedTwice_54 μ n18 f11 n10 v17 K123 n (v15 + (1 : Int32)) v16 f31)) ∧ ((f11 (((4 : Int32) * v15) + (3 : Int32)).toNatClampNeg) = (1 : Int32) → (wpl_X11_turnedTwice_54 μ n18 f11 n10 v17 K123 n (v15 + (1 : Int32)) (v16 ||| ((1 : Int64) <<< (v15.toInt64 &&& 63))) f31)))) n20x (0 : Int32) f19))
def wp_X11_turnedTwice (μ : TMem) (a1 : Int32) (Q : Option AI → Prop) : Prop :=
  wp_X11_arrowsAll μ a1 (fun (n4 : Nat) (f5 : Nat → Int64) => vp_in a1 (ml 1) ∧ (vp_in a1 (ml 2) ∧ (vp_in a1 (ml 3) ∧ (wp_X11_oneWay n4 f5 (μ 1 a1.toNatClampNeg) ((μ 2 a1.toNatClampNeg).toInt64) ((μ 3 a1.toNatClampNeg).toInt64) (1 : Int32) (fun (r41 : Option AI) => (r41 = none → (Q none)) ∧ (∀ (n10 : Nat) (f11 : Nat → Int32), r41 = some (n10, f11) → ((¬ ((3 : Int32) * ((nI n10) / (4 : Int32))) < 0 ∧ ((3 : Int32) * ((nI n10) / (4 : Int32))).toNatClampNeg ≤ 96) ∧ (∃ n13x, wpl_X11_turnedTwice_54 μ (((3 : Int32) * ((nI n10) / (4 : Int32))).toNatClampNeg) f11 n10 ((nI n10) / (4 : Int32)) (fun (u35 : Int64) (f36 : Nat → Int64) => wp_X11_oneWay (((3 : Int32) * ((nI n10) / (4 : Int32))).toNatClampNeg) f36 ((nI n10) / (4 : Int32)) (1 : Int64) u35 (1 : Int32) (fun (r40 : Option AI) => (r40 = none → (Q none)) ∧ (∀ (n38 : Nat) (f39 : Nat → Int32), r40 = some (n38, f39) → (Q (some (n38, f39)))))) n13x (0 : Int32) (0 : Int64) (fun _ => 0)))))))))
set_option maxHeartbeats 4000000 in
set_option maxRecDepth 100000 in
theorem c_X11_turnedTwice {l : Launch} {D : va_G} {ad : Nat → Nat} {cI cL : ClassId}  (μ : TMem) (sz : Nat) (a1 : Int32)  {Q : Option AI → Prop} (h : wp_X11_turnedTwice μ a1 Q) : MMA l yX11_turnedTwice (.code yX11_turnedTwice cX11_turnedTwice 9 (Option.some (Jvm.ClassFile.FieldType.array Jvm.ClassFile.FieldType.int))) 2 8 693 [.ref (ad 0), .int a1] D ad cI cL sz μ [] (fun o μ1 => μ1 = μ ∧ Q o) := by
  refine M_metA (by decide +kernel) (Nat.le_of_ble_eq_true rfl) ?_
  intro p e s m below meth c Z ls hx hb hml hown ht hK hP0 hI hne hw hret hretN hl
  have hl : lv_has ls 9 [(0, .ref (ad 0)), (1, .int a1)] := hl
  suffices hh : ∀ (H : Heap) (locs : List Loc), MW D (MR ad cI μ) [] (MA ad s.heap.size) s H locs → W p l e (RA 2 8 693) s m #[.ref (ad 0), .int a1] below meth c H locs 0 0 Z (F0 m 0 ls []) from hh _ _ hw
  intro H locs hw
  change wp_X11_arrowsAll μ a1 (fun (n4 : Nat) (f5 : Nat → Int64) => vp_in a1 (ml 1) ∧ (vp_in a1 (ml 2) ∧ (vp_in a1 (ml 3) ∧ (wp_X11_oneWay n4 f5 (μ 1 a1.toNatClampNeg) ((μ 2 a1.toNatClampNeg).toInt64) ((μ 3 a1.toNatClampNeg).toInt64) (1 : Int32) (fun (r41 : Option AI) => (r41 = none → (Q none)) ∧ (∀ (n10 : Nat) (f11 : Nat → Int32), r41 = some (n10, f11) → ((¬ ((3 : Int32) * ((nI n10) / (4 : Int32))) < 0 ∧ ((3 : Int32) * ((nI n10) / (4 : Int32))).toNatClampNeg ≤ 96) ∧ (∃ n13x, wpl_X11_turnedTwice_54 μ (((3 : Int32) * ((nI n10) / (4 : Int32))).toNatClampNeg) f11 n10 ((nI n10) / (4 : Int32)) (fun (u35 : Int64) (f36 : Nat → Int64) => wp_X11_oneWay (((3 : Int32) * ((nI n10) / (4 : Int32))).toNatClampNeg) f36 ((nI n10) / (4 : Int32)) (1 : Int64) u35 (1 : Int32) (fun (r40 : Option AI) => (r40 = none → (Q none)) ∧ (∀ (n38 : Nat) (f39 : Nat → Int32), r40 = some (n38, f39) → (Q (some (n38, f39)))))) n13x (0 : Int32) (0 : Int64) (fun _ => 0))))))))) at h
  refine lv_aload_n hx hb dX11_turnedTwice_0 rfl (lv_at hl 0 rfl) ?_
  refine lv_iload_n hx hb dX11_turnedTwice_1 rfl (lv_at hl 1 rfl) ?_
  refine M_callL hw (MA.up hw.2.2.1.1) (va_runV (own := "LeastreaderModel") (As := [.int a1]) (rest := []) ⟨hx, hb, hml, hown, ht⟩ (c_X11_arrowsAll μ H.size a1 h) (cwV 1 ht (G_V q_1417 q_1419 q_33 q_56 q_1420) rfl rfl rfl ⟨rfl, hd_82⟩ ⟨Nat.le_of_ble_eq_true rfl, Nat.le_of_ble_eq_true rfl⟩) ⟨MB.blind, M_recv hK hw, MB.pre hK hI hw va_P0 ne0⟩ rfl rfl hl.1 rfl (lv_room (Nat.le_of_ble_eq_true rfl)) dX11_turnedTwice_2 ⟨show 0 + 1 ≤ 8 by omega, show 0 + 21 ≤ 693 by omega⟩) (fun q3 n4 f5 μ1 H locs hq3 h hw => ?_)
  obtain ⟨e2, h⟩ := h
  rw [e2] at hw
  have hw : MW D (MR ad cI μ) [eL cL q3 n4 f5] (MA ad s.heap.size) s H locs := hw
  refine lv_aload_n hx hb dX11_turnedTwice_5 rfl (lv_at hl 0 rfl) ?_
  refine m_get (i := 0) hx hb ht hown hK hw (by decide) (ht _ q_1313) rfl rfl dX11_turnedTwice_6 ?_
  refine lv_iload_n hx hb dX11_turnedTwice_9 rfl (lv_at hl 1 rfl) ?_
  obtain ⟨z6, h⟩ := h
  refine m_iald hx hb hK hw (by decide) z6 dX11_turnedTwice_10 ?_
  refine lv_aload_n hx hb dX11_turnedTwice_11 rfl (lv_at hl 0 rfl) ?_
  refine m_get (i := 1) hx hb ht hown hK hw (by decide) (ht _ q_1314) rfl rfl dX11_turnedTwice_12 ?_
  refine lv_iload_n hx hb dX11_turnedTwice_15 rfl (lv_at hl 1 rfl) ?_
  obtain ⟨z7, h⟩ := h
  refine m_iald hx hb hK hw (by decide) z7 dX11_turnedTwice_16 ?_
  refine lv_i2l hx hb dX11_turnedTwice_17 rfl ?_
  refine lv_aload_n hx hb dX11_turnedTwice_18 rfl (lv_at hl 0 rfl) ?_
  refine m_get (i := 2) hx hb ht hown hK hw (by decide) (ht _ q_1315) rfl rfl dX11_turnedTwice_19 ?_
  refine lv_iload_n hx hb dX11_turnedTwice_22 rfl (lv_at hl 1 rfl) ?_
  obtain ⟨z8, h⟩ := h
  refine m_iald hx hb hK hw (by decide) z8 dX11_turnedTwice_23 ?_
  refine lv_i2l hx hb dX11_turnedTwice_24 rfl ?_
  refine lv_iconst (v := (1 : Int32)) hx hb dX11_turnedTwice_25 (by decide) ?_
  refine S_callA hw (va_runS (own := "LeastreaderModel") (As := [.ref q3, .int (μ 1 a1.toNatClampNeg), .long ((μ 2 a1.toNatClampNeg).toInt64), .long ((μ 3 a1.toNatClampNeg).toInt64), .int (1 : Int32)]) (rest := []) ⟨hx, hb, hml, hown, ht⟩ (c_X11_oneWay q3 H.size n4 f5 (μ 1 a1.toNatClampNeg) ((μ 2 a1.toNatClampNeg).toInt64) ((μ 3 a1.toNatClampNeg).toInt64) (1 : Int32) h) (va_cwS 5 ht (G_S q_1460 q_1461 q_56 q_1462) rfl rfl rfl hd_83 ⟨Nat.le_of_ble_eq_true rfl, Nat.le_of_ble_eq_true rfl⟩) ⟨SB.blind, SB.pre hK (va_Pc2 (hw.n (j := 0) rfl) va_P0)⟩ rfl rfl hl.1 rfl (lv_room (Nat.le_of_ble_eq_true rfl)) dX11_turnedTwice_26 ⟨show 1 + 3 ≤ 8 by omega, show 21 + 288 ≤ 693 by omega⟩) (fun H locs h hw => ?_) (fun q9 n10 f11 H locs hq9 h hw => ?_)
  · skip
    have h := h.1 rfl
    refine lv_astore_nN (lv' := [(2, .null), (0, .ref (ad 0)), (1, .int a1)]) hx hb dX11_turnedTwice_29 rfl hl (by decide) rfl (fun ls hl => ?_)
    refine lv_aload_nN hx hb dX11_turnedTwice_30 rfl (lv_at hl 0 rfl) ?_
    refine lv_ifnonnullN hx hb dX11_turnedTwice_31 ?_
    refine lv_null hx hb dX11_turnedTwice_34 ?_
    exact hretN H locs ls 35 _ _ _ _ hw ⟨rfl, h⟩ (show 4 ≤ 8 by omega) (show 309 ≤ 693 by omega) dX11_turnedTwice_35
  have h := h.2 _ _ rfl
  have hw : MW D (MR ad cI μ) [eL cL q3 n4 f5, eI cI q9 n10 f11] (MA ad s.heap.size) s H locs := hw
  refine lv_astore_n (lv' := [(2, .ref q9), (0, .ref (ad 0)), (1, .int a1)]) hx hb dX11_turnedTwice_29 rfl hl (by decide) rfl (fun ls hl => ?_)
  refine lv_aload_n hx hb dX11_turnedTwice_30 rfl (lv_at hl 0 rfl) ?_
  refine lv_ifnonnull (tgt := 36) hx hb dX11_turnedTwice_31 (by decide) ?_
  refine lv_aload_n hx hb dX11_turnedTwice_36 rfl (lv_at hl 0 rfl) ?_
  refine n_alenI hx hb hK (hw.n (j := 1) rfl) dX11_turnedTwice_37 ?_
  refine lv_iconst (v := (4 : Int32)) hx hb dX11_turnedTwice_38 (by decide) ?_
  refine lv_idiv hx hb dX11_turnedTwice_39 (by decide) ?_
  refine lv_istore_n (lv' := [(3, .int ((nI n10) / (4 : Int32))), (2, .ref q9), (0, .ref (ad 0)), (1, .int a1)]) hx hb dX11_turnedTwice_40 rfl hl (by decide) rfl (fun ls hl => ?_)
  refine lv_iconst (v := (3 : Int32)) hx hb dX11_turnedTwice_41 (by decide) ?_
  refine lv_iload_n hx hb dX11_turnedTwice_42 rfl (lv_at hl 0 rfl) ?_
  refine lv_imul hx hb dX11_turnedTwice_43 ?_
  obtain ⟨z12, h⟩ := h
  refine n_newL (B := 96) hx hb ht q_1424 hK hw z12 (by decide) (show 4 + 1 ≤ 8 by omega) (show 309 + 96 ≤ 693 by omega) dX11_turnedTwice_44 (fun q13 H hq13 hw => ?_)
  have hw : MW D (MR ad cI μ) [eL cL q3 n4 f5, eI cI q9 n10 f11, eL cL q13 (((3 : Int32) * ((nI n10) / (4 : Int32))).toNatClampNeg) (fun _ => 0)] (MA ad s.heap.size) s H locs := hw
  refine lv_astore (lv' := [(4, .ref q13), (3, .int ((nI n10) / (4 : Int32))), (2, .ref q9), (0, .ref (ad 0)), (1, .int a1)]) hx hb dX11_turnedTwice_46 hl (by decide) rfl (fun ls hl => ?_)
  refine lv_lconst (v := (0 : Int64)) hx hb dX11_turnedTwice_48 (by decide) ?_
  refine lv_lstore (lv' := [(5, .long (0 : Int64)), (4, .ref q13), (3, .int ((nI n10) / (4 : Int32))), (2, .ref q9), (0, .ref (ad 0)), (1, .int a1)]) hx hb dX11_turnedTwice_49 hl (by decide) rfl (fun ls hl => ?_)
  refine lv_iconst (v := (0 : Int32)) hx hb dX11_turnedTwice_51 (by decide) ?_
  refine lv_istore (lv' := [(7, .int (0 : Int32)), (5, .long (0 : Int64)), (4, .ref q13), (3, .int ((nI n10) / (4 : Int32))), (2, .ref q9), (0, .ref (ad 0)), (1, .int a1)]) hx hb dX11_turnedTwice_52 hl (by decide) rfl (fun ls hl => ?_)
  obtain ⟨n34, h⟩ := h
  have L13 : ∀ (n18 : Nat) (v17 : Int32) (K123 : Int64 → (Nat → Int64) → Prop), (∀ (v16 : Int64) (f19 : Nat → Int64), ∀ (H : Heap) (locs : List Loc) (ls : Array Slot), MW D (MR ad cI μ) [eL cL q13 n18 f19] (MA ad s.heap.size) s H locs → lv_has ls 9 [(5, .long v16), (4, .ref q13), (3, .int v17)] → K123 v16 f19 → W p l e (RA 2 8 693) s m #[.ref (ad 0), .int a1] below meth c H locs 5 405 Z (F0 m 123 ls [])) → ∀ (n : Nat), ∀ (v15 : Int32) (v16 : Int64) (f19 : Nat → Int64), ∀ (H : Heap) (locs : List Loc) (ls : Array Slot), MW D (MR ad cI μ) [eI cI q9 n10 f11, eL cL q13 n18 f19] (MA ad s.heap.size) s H locs → lv_has ls 9 [(7, .int v15), (5, .long v16), (4, .ref q13), (3, .int v17), (2, .ref q9)] → wpl_X11_turnedTwice_54 μ n18 f11 n10 v17 K123 n v15 v16 f19 → W p l e (RA 2 8 693) s m #[.ref (ad 0), .int a1] below meth c H locs 5 405 Z (F0 m 54 ls []) := by
    intro n18 v17 K123 hK123
    intro n
    induction n with
    | zero => intro v15 v16 f19 H locs ls hw hl h; exact False.elim h
    | succ n ih13 =>
      intro v15 v16 f19 H locs ls hw hl h
      change (v17 ≤ v15 → (K123 v16 f19)) ∧ (¬ v17 ≤ v15 → (∃ n20x, wpl_X11_turnedTwice_63 μ n18 f11 n10 v15 v16 v17 (fun (f31 : Nat → Int64) => vp_in (((4 : Int32) * v15) + (3 : Int32)) n10 ∧ ((¬ (f11 (((4 : Int32) * v15) + (3 : Int32)).toNatClampNeg) = (1 : Int32) → (wpl_X11_turnedTwice_54 μ n18 f11 n10 v17 K123 n (v15 + (1 : Int32)) v16 f31)) ∧ ((f11 (((4 : Int32) * v15) + (3 : Int32)).toNatClampNeg) = (1 : Int32) → (wpl_X11_turnedTwice_54 μ n18 f11 n10 v17 K123 n (v15 + (1 : Int32)) (v16 ||| ((1 : Int64) <<< (v15.toInt64 &&& 63))) f31)))) n20x (0 : Int32) f19)) at h
      refine lv_iload hx hb dX11_turnedTwice_54 (lv_at hl 0 rfl) ?_
      refine lv_iload_n hx hb dX11_turnedTwice_56 rfl (lv_at hl 3 rfl) ?_
      refine lv_icmp_ge (tgt := 123) hx hb dX11_turnedTwice_57 (by decide) (fun c20 => ?_) (fun c20 => ?_)
      · have h := h.1 c20
        exact hK123 v16 f19 H locs ls (hw.sub [1] (by decide) rfl) (lv_sub hl [1, 2, 3] rfl) h
      have h := h.2 c20
      refine lv_iconst (v := (0 : Int32)) hx hb dX11_turnedTwice_60 (by decide) ?_
      refine lv_istore (lv' := [(8, .int (0 : Int32)), (7, .int v15), (5, .long v16), (4, .ref q13), (3, .int v17), (2, .ref q9)]) hx hb dX11_turnedTwice_61 hl (by decide) rfl (fun ls hl => ?_)
      obtain ⟨n30, h⟩ := h
      have L20 : ∀ (v23 : Int32) (v24 : Int64) (v25 : Int32) (K96 : (Nat → Int64) → Prop), (∀ (f26 : Nat → Int64), ∀ (H : Heap) (locs : List Loc) (ls : Array Slot), MW D (MR ad cI μ) [eI cI q9 n10 f11, eL cL q13 n18 f26] (MA ad s.heap.size) s H locs → lv_has ls 9 [(7, .int v23), (5, .long v24), (4, .ref q13), (3, .int v25), (2, .ref q9)] → K96 f26 → W p l e (RA 2 8 693) s m #[.ref (ad 0), .int a1] below meth c H locs 5 405 Z (F0 m 96 ls [])) → ∀ (n : Nat), ∀ (v22 : Int32) (f26 : Nat → Int64), ∀ (H : Heap) (locs : List Loc) (ls : Array Slot), MW D (MR ad cI μ) [eI cI q9 n10 f11, eL cL q13 n18 f26] (MA ad s.heap.size) s H locs → lv_has ls 9 [(8, .int v22), (7, .int v23), (5, .long v24), (4, .ref q13), (3, .int v25), (2, .ref q9)] → wpl_X11_turnedTwice_63 μ n18 f11 n10 v23 v24 v25 K96 n v22 f26 → W p l e (RA 2 8 693) s m #[.ref (ad 0), .int a1] below meth c H locs 5 405 Z (F0 m 63 ls []) := by
        intro v23 v24 v25 K96 hK96
        intro n
        induction n with
        | zero => intro v22 f26 H locs ls hw hl h; exact False.elim h
        | succ n ih20 =>
          intro v22 f26 H locs ls hw hl h
          change ((3 : Int32) ≤ v22 → (K96 f26)) ∧ (¬ (3 : Int32) ≤ v22 → (vp_in (((4 : Int32) * v23) + v22) n10 ∧ (vp_in (((3 : Int32) * v23) + v22) n18 ∧ (wpl_X11_turnedTwice_63 μ n18 f11 n10 v23 v24 v25 K96 n (v22 + (1 : Int32)) (vp_updL f26 (((3 : Int32) * v23) + v22).toNatClampNeg ((1 : Int64) <<< ((f11 (((4 : Int32) * v23) + v22).toNatClampNeg).toInt64 &&& 63))))))) at h
          refine lv_iload hx hb dX11_turnedTwice_63 (lv_at hl 0 rfl) ?_
          refine lv_iconst (v := (3 : Int32)) hx hb dX11_turnedTwice_65 (by decide) ?_
          refine lv_icmp_ge (tgt := 96) hx hb dX11_turnedTwice_66 (by decide) (fun c27 => ?_) (fun c27 => ?_)
          · have h := h.1 c27
            exact hK96 f26 H locs ls hw (lv_sub hl [1, 2, 3, 4, 5] rfl) h
          have h := h.2 c27
          refine lv_aload hx hb dX11_turnedTwice_69 (lv_at hl 3 rfl) ?_
          refine lv_iconst (v := (3 : Int32)) hx hb dX11_turnedTwice_71 (by decide) ?_
          refine lv_iload hx hb dX11_turnedTwice_72 (lv_at hl 1 rfl) ?_
          refine lv_imul hx hb dX11_turnedTwice_74 ?_
          refine lv_iload hx hb dX11_turnedTwice_75 (lv_at hl 0 rfl) ?_
          refine lv_iadd hx hb dX11_turnedTwice_77 ?_
          refine lv_lconst (v := (1 : Int64)) hx hb dX11_turnedTwice_78 (by decide) ?_
          refine lv_aload_n hx hb dX11_turnedTwice_79 rfl (lv_at hl 5 rfl) ?_
          refine lv_iconst (v := (4 : Int32)) hx hb dX11_turnedTwice_80 (by decide) ?_
          refine lv_iload hx hb dX11_turnedTwice_81 (lv_at hl 1 rfl) ?_
          refine lv_imul hx hb dX11_turnedTwice_83 ?_
          refine lv_iload hx hb dX11_turnedTwice_84 (lv_at hl 0 rfl) ?_
          refine lv_iadd hx hb dX11_turnedTwice_86 ?_
          obtain ⟨z28, h⟩ := h
          refine n_iald hx hb hK (hw.n (j := 0) rfl) z28 dX11_turnedTwice_87 ?_
          refine lv_lshl hx hb dX11_turnedTwice_88 rfl ?_
          obtain ⟨z29, h⟩ := h
          refine n_last (j := 1) hx hb hK hw rfl z29 dX11_turnedTwice_89 (fun H locs hw => ?_)
          have hw : MW D (MR ad cI μ) [eI cI q9 n10 f11, eL cL q13 n18 (vp_updL f26 (((3 : Int32) * v23) + v22).toNatClampNeg ((1 : Int64) <<< ((f11 (((4 : Int32) * v23) + v22).toNatClampNeg).toInt64 &&& 63)))] (MA ad s.heap.size) s H locs := hw
          refine lv_iinc (v := (v22 + (1 : Int32))) (lv' := [(8, .int (v22 + (1 : Int32))), (7, .int v23), (5, .long v24), (4, .ref q13), (3, .int v25), (2, .ref q9)]) hx hb dX11_turnedTwice_90 hl (k := 0) rfl rfl (by decide) rfl (fun ls hl => ?_)
          refine lv_goto (tgt := 63) hx hb dX11_turnedTwice_93 (by decide) ?_
          exact ih20 (v22 + (1 : Int32)) (vp_updL f26 (((3 : Int32) * v23) + v22).toNatClampNeg ((1 : Int64) <<< ((f11 (((4 : Int32) * v23) + v22).toNatClampNeg).toInt64 &&& 63))) H locs ls hw (lv_sub hl [0, 1, 2, 3, 4, 5] rfl) h
      refine L20 v15 v16 v17 _ ?_ n30 (0 : Int32) f19 H locs ls hw (lv_sub hl [0, 1, 2, 3, 4, 5] rfl) h
      intro f31 H locs ls hw hl h
      refine lv_aload_n hx hb dX11_turnedTwice_96 rfl (lv_at hl 4 rfl) ?_
      refine lv_iconst (v := (4 : Int32)) hx hb dX11_turnedTwice_97 (by decide) ?_
      refine lv_iload hx hb dX11_turnedTwice_98 (lv_at hl 0 rfl) ?_
      refine lv_imul hx hb dX11_turnedTwice_100 ?_
      refine lv_iconst (v := (3 : Int32)) hx hb dX11_turnedTwice_101 (by decide) ?_
      refine lv_iadd hx hb dX11_turnedTwice_102 ?_
      obtain ⟨z32, h⟩ := h
      refine n_iald hx hb hK (hw.n (j := 0) rfl) z32 dX11_turnedTwice_103 ?_
      refine lv_iconst (v := (1 : Int32)) hx hb dX11_turnedTwice_104 (by decide) ?_
      refine lv_icmp_ne (tgt := 117) hx hb dX11_turnedTwice_105 (by decide) (fun c33 => ?_) (fun c33 => ?_)
      · have h := h.1 c33
        refine lv_iinc (v := (v15 + (1 : Int32))) (lv' := [(7, .int (v15 + (1 : Int32))), (5, .long v16), (4, .ref q13), (3, .int v17), (2, .ref q9)]) hx hb dX11_turnedTwice_117 hl (k := 0) rfl rfl (by decide) rfl (fun ls hl => ?_)
        refine lv_goto (tgt := 54) hx hb dX11_turnedTwice_120 (by decide) ?_
        exact ih13 (v15 + (1 : Int32)) v16 f31 H locs ls hw (lv_sub hl [0, 1, 2, 3, 4] rfl) h
      have h := h.2 c33
      refine lv_lload hx hb dX11_turnedTwice_108 (lv_at hl 1 rfl) ?_
      refine lv_lconst (v := (1 : Int64)) hx hb dX11_turnedTwice_110 (by decide) ?_
      refine lv_iload hx hb dX11_turnedTwice_111 (lv_at hl 0 rfl) ?_
      refine lv_lshl hx hb dX11_turnedTwice_113 rfl ?_
      refine lv_lor hx hb dX11_turnedTwice_114 ?_
      refine lv_lstore (lv' := [(5, .long (v16 ||| ((1 : Int64) <<< (v15.toInt64 &&& 63)))), (7, .int v15), (4, .ref q13), (3, .int v17), (2, .ref q9)]) hx hb dX11_turnedTwice_115 hl (by decide) rfl (fun ls hl => ?_)
      refine lv_iinc (v := (v15 + (1 : Int32))) (lv' := [(7, .int (v15 + (1 : Int32))), (5, .long (v16 ||| ((1 : Int64) <<< (v15.toInt64 &&& 63)))), (4, .ref q13), (3, .int v17), (2, .ref q9)]) hx hb dX11_turnedTwice_117 hl (k := 1) rfl rfl (by decide) rfl (fun ls hl => ?_)
      refine lv_goto (tgt := 54) hx hb dX11_turnedTwice_120 (by decide) ?_
      exact ih13 (v15 + (1 : Int32)) (v16 ||| ((1 : Int64) <<< (v15.toInt64 &&& 63))) f31 H locs ls hw (lv_sub hl [0, 1, 2, 3, 4] rfl) h
  refine L13 (((3 : Int32) * ((nI n10) / (4 : Int32))).toNatClampNeg) ((nI n10) / (4 : Int32)) _ ?_ n34 (0 : Int32) (0 : Int64) (fun _ => 0) H locs ls (hw.sub [1, 2] (by decide) rfl) (lv_sub hl [0, 1, 2, 3, 4] rfl) h
  intro u35 f36 H locs ls hw hl h
  refine lv_aload hx hb dX11_turnedTwice_123 (lv_at hl 1 rfl) ?_
  refine lv_iload_n hx hb dX11_turnedTwice_125 rfl (lv_at hl 2 rfl) ?_
  refine lv_lconst (v := (1 : Int64)) hx hb dX11_turnedTwice_126 (by decide) ?_
  refine lv_lload hx hb dX11_turnedTwice_127 (lv_at hl 0 rfl) ?_
  refine lv_iconst (v := (1 : Int32)) hx hb dX11_turnedTwice_129 (by decide) ?_
  refine S_callA hw (va_runS (own := "LeastreaderModel") (As := [.ref q13, .int ((nI n10) / (4 : Int32)), .long (1 : Int64), .long u35, .int (1 : Int32)]) (rest := []) ⟨hx, hb, hml, hown, ht⟩ (c_X11_oneWay q13 H.size (((3 : Int32) * ((nI n10) / (4 : Int32))).toNatClampNeg) f36 ((nI n10) / (4 : Int32)) (1 : Int64) u35 (1 : Int32) h) (va_cwS 5 ht (G_S q_1460 q_1461 q_56 q_1462) rfl rfl rfl hd_83 ⟨Nat.le_of_ble_eq_true rfl, Nat.le_of_ble_eq_true rfl⟩) ⟨SB.blind, SB.pre hK (va_Pc2 (hw.n (j := 0) rfl) va_P0)⟩ rfl rfl hl.1 rfl (lv_room (Nat.le_of_ble_eq_true rfl)) dX11_turnedTwice_130 ⟨show 5 + 3 ≤ 8 by omega, show 405 + 288 ≤ 693 by omega⟩) (fun H locs h hw => ?_) (fun q37 n38 f39 H locs hq37 h hw => ?_)
  · skip
    have h := h.1 rfl
    exact hretN H locs ls 133 _ _ _ _ hw ⟨rfl, h⟩ (show 8 ≤ 8 by omega) (show 693 ≤ 693 by omega) dX11_turnedTwice_133
  have h := h.2 _ _ rfl
  have hw : MW D (MR ad cI μ) [eL cL q13 (((3 : Int32) * ((nI n10) / (4 : Int32))).toNatClampNeg) f36, eI cI q37 n38 f39] (MA ad s.heap.size) s H locs := hw
  exact hret H locs ls 133 _ _ _ 1 _ _ _ _ hw rfl hq37 ⟨rfl, h⟩ (show 8 ≤ 8 by omega) (show 693 ≤ 693 by omega) dX11_turnedTwice_133
