def wp_X11_size (μ : TMem) (a1 : Int32) (a2 : Int32) (Q : Int32 → TMem → Prop) : Prop :=
  wp_X11_isOne a1 (fun (r1 : Int32) => wp_X11_isIn a2 (0 : Int32) (3 : Int32) (fun (r2 : Int32) => wp_X11_isThrown μ r1 r2 (fun (r4 : Int32) (μ3 : TMem) => (r4 = 0 → (wp_X11_found μ3 a1 a2 (fun (r17 : Option AI) => (r17 = none → (wp_X11_isCrowded_n μ3 (3 : Int32) (fun (r12 : Int32) (μ11 : TMem) => (r12 = 0 → (False)) ∧ (¬ r12 = 0 → (Q (0 : Int32) μ11))))) ∧ (∀ (n9 : Nat) (f10 : Nat → Int32), r17 = some (n9, f10) → (wp_X11_isCrowded μ3 n9 f10 (3 : Int32) (fun (r15 : Int32) (μ14 : TMem) => (r15 = 0 → (Q ((nI n9) / (4 : Int32)) μ14)) ∧ (¬ r15 = 0 → (Q (0 : Int32) μ14)))))))) ∧ (¬ r4 = 0 → (Q (0 : Int32) μ3)))))
set_option maxHeartbeats 4000000 in
set_option maxRecDepth 100000 in
theorem c_X11_size {l : Launch} {D : va_G} {ad : Nat → Nat} {cI cL : ClassId}  (μ : TMem) (sz : Nat) (a1 : Int32) (a2 : Int32)  {Q : Int32 → TMem → Prop} (h : wp_X11_size μ a1 a2 Q) : MMi l yX11_size (.code yX11_size cX11_size 4 (Option.some Jvm.ClassFile.FieldType.int)) 4 41 1685 [.ref (ad 0), .int a1, .int a2] D ad cI cL sz μ [] Q := by
  refine M_meti (by decide +kernel) (Nat.le_of_ble_eq_true rfl) ?_
  intro p e s m below meth c Z ls hx hb hml hown ht hK hP0 hI hne hw hret hl
  have hl : lv_has ls 4 [(0, .ref (ad 0)), (1, .int a1), (2, .int a2)] := hl
  suffices hh : ∀ (H : Heap) (locs : List Loc), MW D (MR ad cI μ) [] (MA ad s.heap.size) s H locs → W p l e (RA 4 41 1685) s m #[.ref (ad 0), .int a1, .int a2] below meth c H locs 0 0 Z (F0 m 0 ls []) from hh _ _ hw
  intro H locs hw
  change wp_X11_isOne a1 (fun (r1 : Int32) => wp_X11_isIn a2 (0 : Int32) (3 : Int32) (fun (r2 : Int32) => wp_X11_isThrown μ r1 r2 (fun (r4 : Int32) (μ3 : TMem) => (r4 = 0 → (wp_X11_found μ3 a1 a2 (fun (r17 : Option AI) => (r17 = none → (wp_X11_isCrowded_n μ3 (3 : Int32) (fun (r12 : Int32) (μ11 : TMem) => (r12 = 0 → (False)) ∧ (¬ r12 = 0 → (Q (0 : Int32) μ11))))) ∧ (∀ (n9 : Nat) (f10 : Nat → Int32), r17 = some (n9, f10) → (wp_X11_isCrowded μ3 n9 f10 (3 : Int32) (fun (r15 : Int32) (μ14 : TMem) => (r15 = 0 → (Q ((nI n9) / (4 : Int32)) μ14)) ∧ (¬ r15 = 0 → (Q (0 : Int32) μ14)))))))) ∧ (¬ r4 = 0 → (Q (0 : Int32) μ3))))) at h
  refine lv_aload_n hx hb dX11_size_0 rfl (lv_at hl 0 rfl) ?_
  refine lv_iload_n hx hb dX11_size_1 rfl (lv_at hl 1 rfl) ?_
  refine P_calli (va_runS (own := "LeastreaderModel") (As := [.int a1]) (rest := [.ref (ad 0)]) ⟨hx, hb, hml, hown, ht⟩ (c_X11_isOne a1 h) (va_cwS 1 ht (G_S q_1346 q_1347 q_56 q_1348) rfl rfl rfl hd_91 ⟨Nat.le_of_ble_eq_true rfl, Nat.le_of_ble_eq_true rfl⟩) ⟨PM_blind, PM_pre⟩ rfl rfl hl.1 rfl (lv_room (Nat.le_of_ble_eq_true rfl)) dX11_size_2 ⟨show 0 + 0 ≤ 41 by omega, show 0 + 0 ≤ 1685 by omega⟩) (fun r1 h => ?_)
  refine lv_iload_n hx hb dX11_size_5 rfl (lv_at hl 2 rfl) ?_
  refine lv_iconst (v := (0 : Int32)) hx hb dX11_size_6 (by decide) ?_
  refine lv_iconst (v := (3 : Int32)) hx hb dX11_size_7 (by decide) ?_
  refine P_calli (va_runS (own := "LeastreaderModel") (As := [.int a2, .int (0 : Int32), .int (3 : Int32)]) (rest := [.int r1, .ref (ad 0)]) ⟨hx, hb, hml, hown, ht⟩ (c_X11_isIn a2 (0 : Int32) (3 : Int32) h) (va_cwS 3 ht (G_S q_1349 q_1350 q_56 q_1351) rfl rfl rfl hd_78 ⟨Nat.le_of_ble_eq_true rfl, Nat.le_of_ble_eq_true rfl⟩) ⟨PM_blind, PM_pre⟩ rfl rfl hl.1 rfl (lv_room (Nat.le_of_ble_eq_true rfl)) dX11_size_8 ⟨show 0 + 0 ≤ 41 by omega, show 0 + 0 ≤ 1685 by omega⟩) (fun r2 h => ?_)
  refine M_calli hw (MA.up hw.2.2.1.1) (va_runV (own := "LeastreaderModel") (As := [.int r1, .int r2]) (rest := []) ⟨hx, hb, hml, hown, ht⟩ (c_X11_isThrown μ H.size r1 r2 h) (cwV 2 ht (G_V q_1352 q_1354 q_26 q_56 q_1355) rfl rfl rfl ⟨rfl, hd_92⟩ ⟨Nat.le_of_ble_eq_true rfl, Nat.le_of_ble_eq_true rfl⟩) ⟨MB.blind, M_recv hK hw, MB.pre hK hI hw va_P0 ne0⟩ rfl rfl hl.1 rfl (lv_room (Nat.le_of_ble_eq_true rfl)) dX11_size_11 ⟨show 0 + 0 ≤ 41 by omega, show 0 + 0 ≤ 1685 by omega⟩) (fun r4 μ3 H locs h hw => ?_)
  refine lv_if_eq (tgt := 19) hx hb dX11_size_14 (by decide) (fun c5 => ?_) (fun c5 => ?_)
  · have h := h.1 c5
    refine lv_aload_n hx hb dX11_size_19 rfl (lv_at hl 0 rfl) ?_
    refine lv_iload_n hx hb dX11_size_20 rfl (lv_at hl 1 rfl) ?_
    refine lv_iload_n hx hb dX11_size_21 rfl (lv_at hl 2 rfl) ?_
    refine M_callA hw (MA.up hw.2.2.1.1) (va_runV (own := "LeastreaderModel") (As := [.int a1, .int a2]) (rest := []) ⟨hx, hb, hml, hown, ht⟩ (c_X11_found μ3 H.size a1 a2 h) (cwV 2 ht (G_V q_1452 q_1454 q_36 q_56 q_1455) rfl rfl rfl ⟨rfl, hd_103⟩ ⟨Nat.le_of_ble_eq_true rfl, Nat.le_of_ble_eq_true rfl⟩) ⟨MB.blind, M_recv hK hw, MB.pre hK hI hw va_P0 ne0⟩ rfl rfl hl.1 rfl (lv_room (Nat.le_of_ble_eq_true rfl)) dX11_size_22 ⟨show 0 + 41 ≤ 41 by omega, show 0 + 1685 ≤ 1685 by omega⟩) (fun μ6 H locs h hw => ?_) (fun q8 n9 f10 μ6 H locs hq8 h hw => ?_)
    · skip
      obtain ⟨e7, h⟩ := h
      rw [e7] at hw
      have h := h.1 rfl
      refine lv_astore_nN (lv' := [(3, .null), (0, .ref (ad 0)), (1, .int a1), (2, .int a2)]) hx hb dX11_size_25 rfl hl (by decide) rfl (fun ls hl => ?_)
      refine lv_aload_n hx hb dX11_size_26 rfl (lv_at hl 1 rfl) ?_
      refine lv_aload_nN hx hb dX11_size_27 rfl (lv_at hl 0 rfl) ?_
      refine lv_iconst (v := (3 : Int32)) hx hb dX11_size_28 (by decide) ?_
      refine M_calli hw (MA.up hw.2.2.1.1) (va_runV (own := "LeastreaderModel") (As := [.null, .int (3 : Int32)]) (rest := []) ⟨hx, hb, hml, hown, ht⟩ (c_X11_isCrowded_n μ3 H.size (3 : Int32) h) (cwV 2 ht (G_V q_1524 q_1526 q_42 q_56 q_1527) rfl rfl rfl ⟨rfl, hd_109⟩ ⟨Nat.le_of_ble_eq_true rfl, Nat.le_of_ble_eq_true rfl⟩) ⟨MB.blind, M_recv hK hw, MB.pre hK hI hw va_P0 ne0⟩ rfl rfl hl.1 rfl (lv_room (Nat.le_of_ble_eq_true rfl)) dX11_size_29 ⟨show 41 + 0 ≤ 41 by omega, show 1685 + 0 ≤ 1685 by omega⟩) (fun r12 μ11 H locs h hw => ?_)
      refine lv_if_eq (tgt := 39) hx hb dX11_size_32 (by decide) (fun c13 => ?_) (fun c13 => ?_)
      · have h := h.1 c13
        refine lv_aload_nN hx hb dX11_size_39 rfl (lv_at hl 0 rfl) ?_
        exact False.elim h
      have h := h.2 c13
      refine lv_iconst (v := (0 : Int32)) hx hb dX11_size_35 (by decide) ?_
      refine lv_goto (tgt := 43) hx hb dX11_size_36 (by decide) ?_
      exact hret H locs ls 43 _ _ _ _ _ hw h rfl (show 41 ≤ 41 by omega) (show 1685 ≤ 1685 by omega) dX11_size_43
    obtain ⟨e7, h⟩ := h
    rw [e7] at hw
    have h := h.2 _ _ rfl
    have hw : MW D (MR ad cI μ3) [eI cI q8 n9 f10] (MA ad s.heap.size) s H locs := hw
    refine lv_astore_n (lv' := [(3, .ref q8), (0, .ref (ad 0)), (1, .int a1), (2, .int a2)]) hx hb dX11_size_25 rfl hl (by decide) rfl (fun ls hl => ?_)
    refine lv_aload_n hx hb dX11_size_26 rfl (lv_at hl 1 rfl) ?_
    refine lv_aload_n hx hb dX11_size_27 rfl (lv_at hl 0 rfl) ?_
    refine lv_iconst (v := (3 : Int32)) hx hb dX11_size_28 (by decide) ?_
    refine M_calli hw (MA.up hw.2.2.1.1) (va_runV (own := "LeastreaderModel") (As := [.ref q8, .int (3 : Int32)]) (rest := []) ⟨hx, hb, hml, hown, ht⟩ (c_X11_isCrowded q8 μ3 H.size n9 f10 (3 : Int32) h) (cwV 2 ht (G_V q_1524 q_1526 q_42 q_56 q_1527) rfl rfl rfl ⟨rfl, hd_109⟩ ⟨Nat.le_of_ble_eq_true rfl, Nat.le_of_ble_eq_true rfl⟩) ⟨MB.blind, M_recv hK hw, MB.pre hK hI hw (va_Pc2 (hw.n (j := 0) rfl) va_P0) (neC (hw.ne (j := 0) rfl) ne0)⟩ rfl rfl hl.1 rfl (lv_room (Nat.le_of_ble_eq_true rfl)) dX11_size_29 ⟨show 41 + 0 ≤ 41 by omega, show 1685 + 0 ≤ 1685 by omega⟩) (fun r15 μ14 H locs h hw => ?_)
    refine lv_if_eq (tgt := 39) hx hb dX11_size_32 (by decide) (fun c16 => ?_) (fun c16 => ?_)
    · have h := h.1 c16
      refine lv_aload_n hx hb dX11_size_39 rfl (lv_at hl 0 rfl) ?_
      refine n_alenI hx hb hK (hw.n (j := 0) rfl) dX11_size_40 ?_
      refine lv_iconst (v := (4 : Int32)) hx hb dX11_size_41 (by decide) ?_
      refine lv_idiv hx hb dX11_size_42 (by decide) ?_
      exact hret H locs ls 43 _ _ _ _ _ hw h rfl (show 41 ≤ 41 by omega) (show 1685 ≤ 1685 by omega) dX11_size_43
    have h := h.2 c16
    refine lv_iconst (v := (0 : Int32)) hx hb dX11_size_35 (by decide) ?_
    refine lv_goto (tgt := 43) hx hb dX11_size_36 (by decide) ?_
    exact hret H locs ls 43 _ _ _ _ _ hw h rfl (show 41 ≤ 41 by omega) (show 1685 ≤ 1685 by omega) dX11_size_43
  have h := h.2 c5
  refine lv_iconst (v := (0 : Int32)) hx hb dX11_size_17 (by decide) ?_
  exact hret H locs ls 18 _ _ _ _ _ hw h rfl (show 0 ≤ 41 by omega) (show 0 ≤ 1685 by omega) dX11_size_18
def wpl_X11_isReached_29 (fa1 : Nat → Int32) (na1 : Nat) (v15 : Int32) (v17 : Int32) (v18 : Int64) (v19 : Int32) (K68 : Int64 → Prop) : Nat → Int32 → Int64 → Prop
  | 0, _, _ => False
  | n + 1, v14, v16 =>
    ((3 : Int32) ≤ v14 → (K68 v16)) ∧ (¬ (3 : Int32) ≤ v14 → ((¬ (lg_cmp ((v18 >>> (v15.toInt64 &&& 63)) &&& (1 : Int64)) (1 : Int64)) = 0 → (wpl_X11_isReached_29 fa1 na1 v15 v17 v18 v19 K68 n (v14 + (1 : Int32)) v16)) ∧ ((lg_cmp ((v18 >>> (v15.toInt64 &&& 63)) &&& (1 : Int64)) (1 : Int64)) = 0 → (vp_in (((4 : Int32) * v15) + v14) na1 ∧ (wpl_X11_isReached_29 fa1 na1 v15 v17 v18 v19 K68 n (v14 + (1 : Int32)) (v16 ||| ((1 : Int64) <<< ((fa1 (((4 : Int32) * v15) + v14).toNatClampNeg).toInt64 &&& 63))))))))
def wpl_X11_isReached_17 (fa1 : Nat → Int32) (na1 : Nat) (v9 : Int32) (v10 : Int64) (v11 : Int32) (K74 : Int64 → Prop) : Nat → Int32 → Int64 → Prop
  | 0, _, _ => False
  | n + 1, v7, v8 =>
    (((nI na1) / (4 : Int32)) ≤ v7 → (K74 v8)) ∧ (¬ ((nI na1) / (4 : Int32)) ≤ v7 → (∃ n12x, wpl_X11_isReached_29 fa1 na1 v7 v9 v10 v11 (fun (u24 : Int64) => wpl_X11_isReached_17 fa1 na1 v9 v10 v11 K74 n (v7 + (1 : Int32)) u24) n12x (0 : Int32) v8))
def wpl_X11_isReached_5 (fa1 : Nat → Int32) (na1 : Nat) (v4 : Int32) (K83 : Int64 → Prop) : Nat → Int32 → Int64 → Prop
  | 0, _, _ => False
  | n + 1, v2, v3 =>
    (v4 ≤ v2 → (K83 v3)) ∧ (¬ v4 ≤ v2 → (∃ n5x, wpl_X11_isReached_17 fa1 na1 v2 v3 v4 (fun (u26 : Int64) => wpl_X11_isReached_5 fa1 na1 v4 K83 n (v2 + (1 : Int32)) u26) n5x (0 : Int32) (0 : Int64)))
def wpl_X11_isReached_86 (fa1 : Nat → Int32) (na1 : Nat) (v31 : Int64) (Q : Int32 → Prop) : Nat → Int32 → Prop
  | 0, _ => False
  | n + 1, v30 =>
    (((nI na1) / (4 : Int32)) ≤ v30 → (Q (0 : Int32))) ∧ (¬ ((nI na1) / (4 : Int32)) ≤ v30 → ((¬ (lg_cmp ((v31 >>> (v30.toInt64 &&& 63)) &&& (1 : Int64)) (1 : Int64)) = 0 → (wpl_X11_isReached_86 fa1 na1 v31 Q n (v30 + (1 : Int32)))) ∧ ((lg_cmp ((v31 >>> (v30.toInt64 &&& 63)) &&& (1 : Int64)) (1 : Int64)) = 0 → (vp_in (((4 : Int32) * v30) + (3 : Int32)) na1 ∧ ((¬ (fa1 (((4 : Int32) * v30) + (3 : Int32)).toNatClampNeg) = (1 : Int32) → (wpl_X11_isReached_86 fa1 na1 v31 Q n (v30 + (1 : Int32)))) ∧ ((fa1 (((4 : Int32) * v30) + (3 : Int32)).toNatClampNeg) = (1 : Int32) → (Q (1 : Int32))))))))
def wp_X11_isReached (na1 : Nat) (fa1 : Nat → Int32) (a2 : Int32) (Q : Int32 → Prop) : Prop :=
  ∃ n0x, wpl_X11_isReached_5 fa1 na1 a2 (fun (u28 : Int64) => ∃ n28x, wpl_X11_isReached_86 fa1 na1 u28 Q n28x (0 : Int32)) n0x (0 : Int32) (1 : Int64)
set_option maxHeartbeats 4000000 in
set_option maxRecDepth 100000 in
theorem c_X11_isReached {l : Launch} {D : va_G} {cI cL : ClassId} (qa1 : Nat)  (sz : Nat) (na1 : Nat) (fa1 : Nat → Int32) (a2 : Int32)  {Q : Int32 → Prop} (h : wp_X11_isReached na1 fa1 a2 Q) : SMi l yX11_isReached (.code yX11_isReached cX11_isReached 9 (Option.some Jvm.ClassFile.FieldType.boolean)) 0 0 0 [.ref qa1, .int a2] D cI cL sz [eI cI qa1 na1 fa1] Q := by
  refine S_meti (by decide +kernel) (Nat.le_of_ble_eq_true rfl) ?_
  intro p e s m below meth c Z ls hx hb hml hown ht hK hP0 hw hret hl
  have hl : lv_has ls 9 [(0, .ref qa1), (1, .int a2)] := hl
  have hL0 := va_Ph hP0
  have hB0 : ¬ SA s.heap.size qa1 := fun z => absurd hL0.lt (Nat.not_lt.mpr z)
  suffices hh : ∀ (H : Heap) (locs : List Loc), MW D [] [] (SA s.heap.size) s H locs → W p l e (RA 0 0 0) s m #[.ref qa1, .int a2] below meth c H locs 0 0 Z (F0 m 0 ls []) from hh _ _ hw
  intro H locs hw
  change ∃ n0x, wpl_X11_isReached_5 fa1 na1 a2 (fun (u28 : Int64) => ∃ n28x, wpl_X11_isReached_86 fa1 na1 u28 Q n28x (0 : Int32)) n0x (0 : Int32) (1 : Int64) at h
  refine lv_lconst (v := (1 : Int64)) hx hb dX11_isReached_0 (by decide) ?_
  refine lv_lstore_n (lv' := [(2, .long (1 : Int64)), (0, .ref qa1), (1, .int a2)]) hx hb dX11_isReached_1 rfl hl (by decide) rfl (fun ls hl => ?_)
  refine lv_iconst (v := (0 : Int32)) hx hb dX11_isReached_2 (by decide) ?_
  refine lv_istore (lv' := [(4, .int (0 : Int32)), (2, .long (1 : Int64)), (0, .ref qa1), (1, .int a2)]) hx hb dX11_isReached_3 hl (by decide) rfl (fun ls hl => ?_)
  obtain ⟨n27, h⟩ := h
  have L0 : ∀ (v4 : Int32) (K83 : Int64 → Prop), (∀ (v3 : Int64), ∀ (H : Heap) (locs : List Loc) (ls : Array Slot), MW D [] [] (SA s.heap.size) s H locs → lv_has ls 9 [(2, .long v3), (0, .ref qa1)] → K83 v3 → W p l e (RA 0 0 0) s m #[.ref qa1, .int a2] below meth c H locs 0 0 Z (F0 m 83 ls [])) → ∀ (n : Nat), ∀ (v2 : Int32) (v3 : Int64), ∀ (H : Heap) (locs : List Loc) (ls : Array Slot), MW D [] [] (SA s.heap.size) s H locs → lv_has ls 9 [(4, .int v2), (2, .long v3), (0, .ref qa1), (1, .int v4)] → wpl_X11_isReached_5 fa1 na1 v4 K83 n v2 v3 → W p l e (RA 0 0 0) s m #[.ref qa1, .int a2] below meth c H locs 0 0 Z (F0 m 5 ls []) := by
    intro v4 K83 hK83
    intro n
    induction n with
    | zero => intro v2 v3 H locs ls hw hl h; exact False.elim h
    | succ n ih0 =>
      intro v2 v3 H locs ls hw hl h
      change (v4 ≤ v2 → (K83 v3)) ∧ (¬ v4 ≤ v2 → (∃ n5x, wpl_X11_isReached_17 fa1 na1 v2 v3 v4 (fun (u26 : Int64) => wpl_X11_isReached_5 fa1 na1 v4 K83 n (v2 + (1 : Int32)) u26) n5x (0 : Int32) (0 : Int64))) at h
      refine lv_iload hx hb dX11_isReached_5 (lv_at hl 0 rfl) ?_
      refine lv_iload_n hx hb dX11_isReached_7 rfl (lv_at hl 3 rfl) ?_
      refine lv_icmp_ge (tgt := 83) hx hb dX11_isReached_8 (by decide) (fun c5 => ?_) (fun c5 => ?_)
      · have h := h.1 c5
        exact hK83 v3 H locs ls hw (lv_sub hl [1, 2] rfl) h
      have h := h.2 c5
      refine lv_lconst (v := (0 : Int64)) hx hb dX11_isReached_11 (by decide) ?_
      refine lv_lstore (lv' := [(5, .long (0 : Int64)), (4, .int v2), (2, .long v3), (0, .ref qa1), (1, .int v4)]) hx hb dX11_isReached_12 hl (by decide) rfl (fun ls hl => ?_)
      refine lv_iconst (v := (0 : Int32)) hx hb dX11_isReached_14 (by decide) ?_
      refine lv_istore (lv' := [(7, .int (0 : Int32)), (5, .long (0 : Int64)), (4, .int v2), (2, .long v3), (0, .ref qa1), (1, .int v4)]) hx hb dX11_isReached_15 hl (by decide) rfl (fun ls hl => ?_)
      obtain ⟨n25, h⟩ := h
      have L5 : ∀ (v9 : Int32) (v10 : Int64) (v11 : Int32) (K74 : Int64 → Prop), (∀ (v8 : Int64), ∀ (H : Heap) (locs : List Loc) (ls : Array Slot), MW D [] [] (SA s.heap.size) s H locs → lv_has ls 9 [(5, .long v8), (4, .int v9), (0, .ref qa1), (1, .int v11)] → K74 v8 → W p l e (RA 0 0 0) s m #[.ref qa1, .int a2] below meth c H locs 0 0 Z (F0 m 74 ls [])) → ∀ (n : Nat), ∀ (v7 : Int32) (v8 : Int64), ∀ (H : Heap) (locs : List Loc) (ls : Array Slot), MW D [] [] (SA s.heap.size) s H locs → lv_has ls 9 [(7, .int v7), (5, .long v8), (4, .int v9), (2, .long v10), (0, .ref qa1), (1, .int v11)] → wpl_X11_isReached_17 fa1 na1 v9 v10 v11 K74 n v7 v8 → W p l e (RA 0 0 0) s m #[.ref qa1, .int a2] below meth c H locs 0 0 Z (F0 m 17 ls []) := by
        intro v9 v10 v11 K74 hK74
        intro n
        induction n with
        | zero => intro v7 v8 H locs ls hw hl h; exact False.elim h
        | succ n ih5 =>
          intro v7 v8 H locs ls hw hl h
          change (((nI na1) / (4 : Int32)) ≤ v7 → (K74 v8)) ∧ (¬ ((nI na1) / (4 : Int32)) ≤ v7 → (∃ n12x, wpl_X11_isReached_29 fa1 na1 v7 v9 v10 v11 (fun (u24 : Int64) => wpl_X11_isReached_17 fa1 na1 v9 v10 v11 K74 n (v7 + (1 : Int32)) u24) n12x (0 : Int32) v8)) at h
          refine lv_iload hx hb dX11_isReached_17 (lv_at hl 0 rfl) ?_
          refine lv_aload_n hx hb dX11_isReached_19 rfl (lv_at hl 4 rfl) ?_
          refine n_alenI hx hb hK (hw.arg hL0 hB0) dX11_isReached_20 ?_
          refine lv_iconst (v := (4 : Int32)) hx hb dX11_isReached_21 (by decide) ?_
          refine lv_idiv hx hb dX11_isReached_22 (by decide) ?_
          refine lv_icmp_ge (tgt := 74) hx hb dX11_isReached_23 (by decide) (fun c12 => ?_) (fun c12 => ?_)
          · have h := h.1 c12
            exact hK74 v8 H locs ls hw (lv_sub hl [1, 2, 4, 5] rfl) h
          have h := h.2 c12
          refine lv_iconst (v := (0 : Int32)) hx hb dX11_isReached_26 (by decide) ?_
          refine lv_istore (lv' := [(8, .int (0 : Int32)), (7, .int v7), (5, .long v8), (4, .int v9), (2, .long v10), (0, .ref qa1), (1, .int v11)]) hx hb dX11_isReached_27 hl (by decide) rfl (fun ls hl => ?_)
          obtain ⟨n23, h⟩ := h
          have L12 : ∀ (v15 : Int32) (v17 : Int32) (v18 : Int64) (v19 : Int32) (K68 : Int64 → Prop), (∀ (v16 : Int64), ∀ (H : Heap) (locs : List Loc) (ls : Array Slot), MW D [] [] (SA s.heap.size) s H locs → lv_has ls 9 [(7, .int v15), (5, .long v16), (4, .int v17), (2, .long v18), (0, .ref qa1), (1, .int v19)] → K68 v16 → W p l e (RA 0 0 0) s m #[.ref qa1, .int a2] below meth c H locs 0 0 Z (F0 m 68 ls [])) → ∀ (n : Nat), ∀ (v14 : Int32) (v16 : Int64), ∀ (H : Heap) (locs : List Loc) (ls : Array Slot), MW D [] [] (SA s.heap.size) s H locs → lv_has ls 9 [(8, .int v14), (7, .int v15), (5, .long v16), (4, .int v17), (2, .long v18), (0, .ref qa1), (1, .int v19)] → wpl_X11_isReached_29 fa1 na1 v15 v17 v18 v19 K68 n v14 v16 → W p l e (RA 0 0 0) s m #[.ref qa1, .int a2] below meth c H locs 0 0 Z (F0 m 29 ls []) := by
            intro v15 v17 v18 v19 K68 hK68
            intro n
            induction n with
            | zero => intro v14 v16 H locs ls hw hl h; exact False.elim h
            | succ n ih12 =>
              intro v14 v16 H locs ls hw hl h
              change ((3 : Int32) ≤ v14 → (K68 v16)) ∧ (¬ (3 : Int32) ≤ v14 → ((¬ (lg_cmp ((v18 >>> (v15.toInt64 &&& 63)) &&& (1 : Int64)) (1 : Int64)) = 0 → (wpl_X11_isReached_29 fa1 na1 v15 v17 v18 v19 K68 n (v14 + (1 : Int32)) v16)) ∧ ((lg_cmp ((v18 >>> (v15.toInt64 &&& 63)) &&& (1 : Int64)) (1 : Int64)) = 0 → (vp_in (((4 : Int32) * v15) + v14) na1 ∧ (wpl_X11_isReached_29 fa1 na1 v15 v17 v18 v19 K68 n (v14 + (1 : Int32)) (v16 ||| ((1 : Int64) <<< ((fa1 (((4 : Int32) * v15) + v14).toNatClampNeg).toInt64 &&& 63)))))))) at h
              refine lv_iload hx hb dX11_isReached_29 (lv_at hl 0 rfl) ?_
              refine lv_iconst (v := (3 : Int32)) hx hb dX11_isReached_31 (by decide) ?_
              refine lv_icmp_ge (tgt := 68) hx hb dX11_isReached_32 (by decide) (fun c20 => ?_) (fun c20 => ?_)
              · have h := h.1 c20
                exact hK68 v16 H locs ls hw (lv_sub hl [1, 2, 3, 4, 5, 6] rfl) h
              have h := h.2 c20
              refine lv_lload_n hx hb dX11_isReached_35 rfl (lv_at hl 4 rfl) ?_
              refine lv_iload hx hb dX11_isReached_36 (lv_at hl 1 rfl) ?_
              refine lv_lshr hx hb dX11_isReached_38 rfl ?_
              refine lv_lconst (v := (1 : Int64)) hx hb dX11_isReached_39 (by decide) ?_
              refine lv_land hx hb dX11_isReached_40 ?_
              refine lv_lconst (v := (1 : Int64)) hx hb dX11_isReached_41 (by decide) ?_
              refine W.lcmp hx hb dX11_isReached_42 ?_
              refine lv_if_ne (tgt := 62) hx hb dX11_isReached_43 (by decide) (fun c21 => ?_) (fun c21 => ?_)
              · have h := h.1 c21
                refine lv_iinc (v := (v14 + (1 : Int32))) (lv' := [(8, .int (v14 + (1 : Int32))), (7, .int v15), (5, .long v16), (4, .int v17), (2, .long v18), (0, .ref qa1), (1, .int v19)]) hx hb dX11_isReached_62 hl (k := 0) rfl rfl (by decide) rfl (fun ls hl => ?_)
                refine lv_goto (tgt := 29) hx hb dX11_isReached_65 (by decide) ?_
                exact ih12 (v14 + (1 : Int32)) v16 H locs ls hw (lv_sub hl [0, 1, 2, 3, 4, 5, 6] rfl) h
              have h := h.2 c21
              refine lv_lload hx hb dX11_isReached_46 (lv_at hl 2 rfl) ?_
              refine lv_lconst (v := (1 : Int64)) hx hb dX11_isReached_48 (by decide) ?_
              refine lv_aload_n hx hb dX11_isReached_49 rfl (lv_at hl 5 rfl) ?_
              refine lv_iconst (v := (4 : Int32)) hx hb dX11_isReached_50 (by decide) ?_
              refine lv_iload hx hb dX11_isReached_51 (lv_at hl 1 rfl) ?_
              refine lv_imul hx hb dX11_isReached_53 ?_
              refine lv_iload hx hb dX11_isReached_54 (lv_at hl 0 rfl) ?_
              refine lv_iadd hx hb dX11_isReached_56 ?_
              obtain ⟨z22, h⟩ := h
              refine n_iald hx hb hK (hw.arg hL0 hB0) z22 dX11_isReached_57 ?_
              refine lv_lshl hx hb dX11_isReached_58 rfl ?_
              refine lv_lor hx hb dX11_isReached_59 ?_
              refine lv_lstore (lv' := [(5, .long (v16 ||| ((1 : Int64) <<< ((fa1 (((4 : Int32) * v15) + v14).toNatClampNeg).toInt64 &&& 63)))), (8, .int v14), (7, .int v15), (4, .int v17), (2, .long v18), (0, .ref qa1), (1, .int v19)]) hx hb dX11_isReached_60 hl (by decide) rfl (fun ls hl => ?_)
              refine lv_iinc (v := (v14 + (1 : Int32))) (lv' := [(8, .int (v14 + (1 : Int32))), (5, .long (v16 ||| ((1 : Int64) <<< ((fa1 (((4 : Int32) * v15) + v14).toNatClampNeg).toInt64 &&& 63)))), (7, .int v15), (4, .int v17), (2, .long v18), (0, .ref qa1), (1, .int v19)]) hx hb dX11_isReached_62 hl (k := 1) rfl rfl (by decide) rfl (fun ls hl => ?_)
              refine lv_goto (tgt := 29) hx hb dX11_isReached_65 (by decide) ?_
              exact ih12 (v14 + (1 : Int32)) (v16 ||| ((1 : Int64) <<< ((fa1 (((4 : Int32) * v15) + v14).toNatClampNeg).toInt64 &&& 63))) H locs ls hw (lv_sub hl [0, 2, 1, 3, 4, 5, 6] rfl) h
          refine L12 v7 v9 v10 v11 _ ?_ n23 (0 : Int32) v8 H locs ls hw (lv_sub hl [0, 1, 2, 3, 4, 5, 6] rfl) h
          intro u24 H locs ls hw hl h
          refine lv_iinc (v := (v7 + (1 : Int32))) (lv' := [(7, .int (v7 + (1 : Int32))), (5, .long u24), (4, .int v9), (2, .long v10), (0, .ref qa1), (1, .int v11)]) hx hb dX11_isReached_68 hl (k := 0) rfl rfl (by decide) rfl (fun ls hl => ?_)
          refine lv_goto (tgt := 17) hx hb dX11_isReached_71 (by decide) ?_
          exact ih5 (v7 + (1 : Int32)) u24 H locs ls hw (lv_sub hl [0, 1, 2, 3, 4, 5] rfl) h
      refine L5 v2 v3 v4 _ ?_ n25 (0 : Int32) (0 : Int64) H locs ls hw (lv_sub hl [0, 1, 2, 3, 4, 5] rfl) h
      intro u26 H locs ls hw hl h
      refine lv_lload hx hb dX11_isReached_74 (lv_at hl 0 rfl) ?_
      refine lv_lstore_n (lv' := [(2, .long u26), (5, .long u26), (4, .int v2), (0, .ref qa1), (1, .int v4)]) hx hb dX11_isReached_76 rfl hl (by decide) rfl (fun ls hl => ?_)
      refine lv_iinc (v := (v2 + (1 : Int32))) (lv' := [(4, .int (v2 + (1 : Int32))), (2, .long u26), (5, .long u26), (0, .ref qa1), (1, .int v4)]) hx hb dX11_isReached_77 hl (k := 2) rfl rfl (by decide) rfl (fun ls hl => ?_)
      refine lv_goto (tgt := 5) hx hb dX11_isReached_80 (by decide) ?_
      exact ih0 (v2 + (1 : Int32)) u26 H locs ls hw (lv_sub hl [0, 1, 3, 4] rfl) h
  refine L0 a2 _ ?_ n27 (0 : Int32) (1 : Int64) H locs ls hw (lv_sub hl [0, 1, 2, 3] rfl) h
  intro u28 H locs ls hw hl h
  refine lv_iconst (v := (0 : Int32)) hx hb dX11_isReached_83 (by decide) ?_
  refine lv_istore (lv' := [(4, .int (0 : Int32)), (2, .long u28), (0, .ref qa1)]) hx hb dX11_isReached_84 hl (by decide) rfl (fun ls hl => ?_)
  obtain ⟨n36, h⟩ := h
  have L28 : ∀ (v31 : Int64), ∀ (n : Nat), ∀ (v30 : Int32), ∀ (H : Heap) (locs : List Loc) (ls : Array Slot), MW D [] [] (SA s.heap.size) s H locs → lv_has ls 9 [(4, .int v30), (2, .long v31), (0, .ref qa1)] → wpl_X11_isReached_86 fa1 na1 v31 Q n v30 → W p l e (RA 0 0 0) s m #[.ref qa1, .int a2] below meth c H locs 0 0 Z (F0 m 86 ls []) := by
    intro v31
    intro n
    induction n with
    | zero => intro v30 H locs ls hw hl h; exact False.elim h
    | succ n ih28 =>
      intro v30 H locs ls hw hl h
      change (((nI na1) / (4 : Int32)) ≤ v30 → (Q (0 : Int32))) ∧ (¬ ((nI na1) / (4 : Int32)) ≤ v30 → ((¬ (lg_cmp ((v31 >>> (v30.toInt64 &&& 63)) &&& (1 : Int64)) (1 : Int64)) = 0 → (wpl_X11_isReached_86 fa1 na1 v31 Q n (v30 + (1 : Int32)))) ∧ ((lg_cmp ((v31 >>> (v30.toInt64 &&& 63)) &&& (1 : Int64)) (1 : Int64)) = 0 → (vp_in (((4 : Int32) * v30) + (3 : Int32)) na1 ∧ ((¬ (fa1 (((4 : Int32) * v30) + (3 : Int32)).toNatClampNeg) = (1 : Int32) → (wpl_X11_isReached_86 fa1 na1 v31 Q n (v30 + (1 : Int32)))) ∧ ((fa1 (((4 : Int32) * v30) + (3 : Int32)).toNatClampNeg) = (1 : Int32) → (Q (1 : Int32)))))))) at h
      refine lv_iload hx hb dX11_isReached_86 (lv_at hl 0 rfl) ?_
      refine lv_aload_n hx hb dX11_isReached_88 rfl (lv_at hl 2 rfl) ?_
      refine n_alenI hx hb hK (hw.arg hL0 hB0) dX11_isReached_89 ?_
      refine lv_iconst (v := (4 : Int32)) hx hb dX11_isReached_90 (by decide) ?_
      refine lv_idiv hx hb dX11_isReached_91 (by decide) ?_
      refine lv_icmp_ge (tgt := 126) hx hb dX11_isReached_92 (by decide) (fun c32 => ?_) (fun c32 => ?_)
      · have h := h.1 c32
        refine lv_iconst (v := (0 : Int32)) hx hb dX11_isReached_126 (by decide) ?_
        exact hret H locs ls 127 _ _ _ _ hw h rfl (show 0 ≤ 0 by omega) (show 0 ≤ 0 by omega) dX11_isReached_127
      have h := h.2 c32
      refine lv_lload_n hx hb dX11_isReached_95 rfl (lv_at hl 1 rfl) ?_
      refine lv_iload hx hb dX11_isReached_96 (lv_at hl 0 rfl) ?_
      refine lv_lshr hx hb dX11_isReached_98 rfl ?_
      refine lv_lconst (v := (1 : Int64)) hx hb dX11_isReached_99 (by decide) ?_
      refine lv_land hx hb dX11_isReached_100 ?_
      refine lv_lconst (v := (1 : Int64)) hx hb dX11_isReached_101 (by decide) ?_
      refine W.lcmp hx hb dX11_isReached_102 ?_
      refine lv_if_ne (tgt := 120) hx hb dX11_isReached_103 (by decide) (fun c33 => ?_) (fun c33 => ?_)
      · have h := h.1 c33
        refine lv_iinc (v := (v30 + (1 : Int32))) (lv' := [(4, .int (v30 + (1 : Int32))), (2, .long v31), (0, .ref qa1)]) hx hb dX11_isReached_120 hl (k := 0) rfl rfl (by decide) rfl (fun ls hl => ?_)
        refine lv_goto (tgt := 86) hx hb dX11_isReached_123 (by decide) ?_
        exact ih28 (v30 + (1 : Int32)) H locs ls hw (lv_sub hl [0, 1, 2] rfl) h
      have h := h.2 c33
      refine lv_aload_n hx hb dX11_isReached_106 rfl (lv_at hl 2 rfl) ?_
      refine lv_iconst (v := (4 : Int32)) hx hb dX11_isReached_107 (by decide) ?_
      refine lv_iload hx hb dX11_isReached_108 (lv_at hl 0 rfl) ?_
      refine lv_imul hx hb dX11_isReached_110 ?_
      refine lv_iconst (v := (3 : Int32)) hx hb dX11_isReached_111 (by decide) ?_
      refine lv_iadd hx hb dX11_isReached_112 ?_
      obtain ⟨z34, h⟩ := h
      refine n_iald hx hb hK (hw.arg hL0 hB0) z34 dX11_isReached_113 ?_
      refine lv_iconst (v := (1 : Int32)) hx hb dX11_isReached_114 (by decide) ?_
      refine lv_icmp_ne (tgt := 120) hx hb dX11_isReached_115 (by decide) (fun c35 => ?_) (fun c35 => ?_)
      · have h := h.1 c35
        refine lv_iinc (v := (v30 + (1 : Int32))) (lv' := [(4, .int (v30 + (1 : Int32))), (2, .long v31), (0, .ref qa1)]) hx hb dX11_isReached_120 hl (k := 0) rfl rfl (by decide) rfl (fun ls hl => ?_)
        refine lv_goto (tgt := 86) hx hb dX11_isReached_123 (by decide) ?_
        exact ih28 (v30 + (1 : Int32)) H locs ls hw (lv_sub hl [0, 1, 2] rfl) h
      have h := h.2 c35
      refine lv_iconst (v := (1 : Int32)) hx hb dX11_isReached_118 (by decide) ?_
      exact hret H locs ls 119 _ _ _ _ hw h rfl (show 0 ≤ 0 by omega) (show 0 ≤ 0 by omega) dX11_isReached_119
  exact L28 u28 n36 (0 : Int32) H locs ls hw (lv_sub hl [0, 1, 2] rfl) h
def wpl_X11_kind_49 (μ13 : TMem) (f9 : Nat → Int32) (n8 : Nat) (v19 : Int32) (Q : Int32 → TMem → Prop) : Nat → Int32 → Prop
  | 0, _ => False
  | n + 1, v18 =>
    (((2 : Int32) * v19) ≤ v18 → (Q (2 : Int32) μ13)) ∧ (¬ ((2 : Int32) * v19) ≤ v18 → (wp_X11_isReached n8 f9 v18 (fun (r21 : Int32) => (r21 = 0 → (wpl_X11_kind_49 μ13 f9 n8 v19 Q n (v18 + (1 : Int32)))) ∧ (¬ r21 = 0 → (Q (3 : Int32) μ13)))))
def wp_X11_kind (μ : TMem) (a1 : Int32) (Q : Int32 → TMem → Prop) : Prop :=
  wp_X11_isOne a1 (fun (r1 : Int32) => wp_X11_isThrown μ r1 (1 : Int32) (fun (r3 : Int32) (μ2 : TMem) => (r3 = 0 → (wp_X11_found μ2 a1 (0 : Int32) (fun (r25 : Option AI) => (r25 = none → (wp_X11_isCrowded_n μ2 (2 : Int32) (fun (r11 : Int32) (μ10 : TMem) => (r11 = 0 → (False)) ∧ (¬ r11 = 0 → (Q (0 : Int32) μ10))))) ∧ (∀ (n8 : Nat) (f9 : Nat → Int32), r25 = some (n8, f9) → (wp_X11_isCrowded μ2 n8 f9 (2 : Int32) (fun (r14 : Int32) (μ13 : TMem) => (r14 = 0 → ((¬ ((nI n8) / (4 : Int32)) = (1 : Int32) → (∃ n16x, wpl_X11_kind_49 μ13 f9 n8 ((nI n8) / (4 : Int32)) Q n16x ((nI n8) / (4 : Int32)))) ∧ (((nI n8) / (4 : Int32)) = (1 : Int32) → (vp_in (3 : Int32) n8 ∧ (Q (f9 (3 : Int32).toNatClampNeg) μ13))))) ∧ (¬ r14 = 0 → (Q (0 : Int32) μ13)))))))) ∧ (¬ r3 = 0 → (Q (0 : Int32) μ2))))
set_option maxHeartbeats 4000000 in
set_option maxRecDepth 100000 in
theorem c_X11_kind {l : Launch} {D : va_G} {ad : Nat → Nat} {cI cL : ClassId}  (μ : TMem) (sz : Nat) (a1 : Int32)  {Q : Int32 → TMem → Prop} (h : wp_X11_kind μ a1 Q) : MMi l yX11_kind (.code yX11_kind cX11_kind 5 (Option.some Jvm.ClassFile.FieldType.int)) 4 41 1685 [.ref (ad 0), .int a1] D ad cI cL sz μ [] Q := by
  refine M_meti (by decide +kernel) (Nat.le_of_ble_eq_true rfl) ?_
  intro p e s m below meth c Z ls hx hb hml hown ht hK hP0 hI hne hw hret hl
  have hl : lv_has ls 5 [(0, .ref (ad 0)), (1, .int a1)] := hl
  suffices hh : ∀ (H : Heap) (locs : List Loc), MW D (MR ad cI μ) [] (MA ad s.heap.size) s H locs → W p l e (RA 4 41 1685) s m #[.ref (ad 0), .int a1] below meth c H locs 0 0 Z (F0 m 0 ls []) from hh _ _ hw
  intro H locs hw
  change wp_X11_isOne a1 (fun (r1 : Int32) => wp_X11_isThrown μ r1 (1 : Int32) (fun (r3 : Int32) (μ2 : TMem) => (r3 = 0 → (wp_X11_found μ2 a1 (0 : Int32) (fun (r25 : Option AI) => (r25 = none → (wp_X11_isCrowded_n μ2 (2 : Int32) (fun (r11 : Int32) (μ10 : TMem) => (r11 = 0 → (False)) ∧ (¬ r11 = 0 → (Q (0 : Int32) μ10))))) ∧ (∀ (n8 : Nat) (f9 : Nat → Int32), r25 = some (n8, f9) → (wp_X11_isCrowded μ2 n8 f9 (2 : Int32) (fun (r14 : Int32) (μ13 : TMem) => (r14 = 0 → ((¬ ((nI n8) / (4 : Int32)) = (1 : Int32) → (∃ n16x, wpl_X11_kind_49 μ13 f9 n8 ((nI n8) / (4 : Int32)) Q n16x ((nI n8) / (4 : Int32)))) ∧ (((nI n8) / (4 : Int32)) = (1 : Int32) → (vp_in (3 : Int32) n8 ∧ (Q (f9 (3 : Int32).toNatClampNeg) μ13))))) ∧ (¬ r14 = 0 → (Q (0 : Int32) μ13)))))))) ∧ (¬ r3 = 0 → (Q (0 : Int32) μ2)))) at h
  refine lv_aload_n hx hb dX11_kind_0 rfl (lv_at hl 0 rfl) ?_
  refine lv_iload_n hx hb dX11_kind_1 rfl (lv_at hl 1 rfl) ?_
  refine P_calli (va_runS (own := "LeastreaderModel") (As := [.int a1]) (rest := [.ref (ad 0)]) ⟨hx, hb, hml, hown, ht⟩ (c_X11_isOne a1 h) (va_cwS 1 ht (G_S q_1346 q_1347 q_56 q_1348) rfl rfl rfl hd_91 ⟨Nat.le_of_ble_eq_true rfl, Nat.le_of_ble_eq_true rfl⟩) ⟨PM_blind, PM_pre⟩ rfl rfl hl.1 rfl (lv_room (Nat.le_of_ble_eq_true rfl)) dX11_kind_2 ⟨show 0 + 0 ≤ 41 by omega, show 0 + 0 ≤ 1685 by omega⟩) (fun r1 h => ?_)
  refine lv_iconst (v := (1 : Int32)) hx hb dX11_kind_5 (by decide) ?_
  refine M_calli hw (MA.up hw.2.2.1.1) (va_runV (own := "LeastreaderModel") (As := [.int r1, .int (1 : Int32)]) (rest := []) ⟨hx, hb, hml, hown, ht⟩ (c_X11_isThrown μ H.size r1 (1 : Int32) h) (cwV 2 ht (G_V q_1352 q_1354 q_26 q_56 q_1355) rfl rfl rfl ⟨rfl, hd_92⟩ ⟨Nat.le_of_ble_eq_true rfl, Nat.le_of_ble_eq_true rfl⟩) ⟨MB.blind, M_recv hK hw, MB.pre hK hI hw va_P0 ne0⟩ rfl rfl hl.1 rfl (lv_room (Nat.le_of_ble_eq_true rfl)) dX11_kind_6 ⟨show 0 + 0 ≤ 41 by omega, show 0 + 0 ≤ 1685 by omega⟩) (fun r3 μ2 H locs h hw => ?_)
  refine lv_if_eq (tgt := 14) hx hb dX11_kind_9 (by decide) (fun c4 => ?_) (fun c4 => ?_)
  · have h := h.1 c4
    refine lv_aload_n hx hb dX11_kind_14 rfl (lv_at hl 0 rfl) ?_
    refine lv_iload_n hx hb dX11_kind_15 rfl (lv_at hl 1 rfl) ?_
    refine lv_iconst (v := (0 : Int32)) hx hb dX11_kind_16 (by decide) ?_
    refine M_callA hw (MA.up hw.2.2.1.1) (va_runV (own := "LeastreaderModel") (As := [.int a1, .int (0 : Int32)]) (rest := []) ⟨hx, hb, hml, hown, ht⟩ (c_X11_found μ2 H.size a1 (0 : Int32) h) (cwV 2 ht (G_V q_1452 q_1454 q_36 q_56 q_1455) rfl rfl rfl ⟨rfl, hd_103⟩ ⟨Nat.le_of_ble_eq_true rfl, Nat.le_of_ble_eq_true rfl⟩) ⟨MB.blind, M_recv hK hw, MB.pre hK hI hw va_P0 ne0⟩ rfl rfl hl.1 rfl (lv_room (Nat.le_of_ble_eq_true rfl)) dX11_kind_17 ⟨show 0 + 41 ≤ 41 by omega, show 0 + 1685 ≤ 1685 by omega⟩) (fun μ5 H locs h hw => ?_) (fun q7 n8 f9 μ5 H locs hq7 h hw => ?_)
    · skip
      obtain ⟨e6, h⟩ := h
      rw [e6] at hw
      have h := h.1 rfl
      refine lv_astore_nN (lv' := [(2, .null), (0, .ref (ad 0)), (1, .int a1)]) hx hb dX11_kind_20 rfl hl (by decide) rfl (fun ls hl => ?_)
      refine lv_aload_n hx hb dX11_kind_21 rfl (lv_at hl 1 rfl) ?_
      refine lv_aload_nN hx hb dX11_kind_22 rfl (lv_at hl 0 rfl) ?_
      refine lv_iconst (v := (2 : Int32)) hx hb dX11_kind_23 (by decide) ?_
      refine M_calli hw (MA.up hw.2.2.1.1) (va_runV (own := "LeastreaderModel") (As := [.null, .int (2 : Int32)]) (rest := []) ⟨hx, hb, hml, hown, ht⟩ (c_X11_isCrowded_n μ2 H.size (2 : Int32) h) (cwV 2 ht (G_V q_1524 q_1526 q_42 q_56 q_1527) rfl rfl rfl ⟨rfl, hd_109⟩ ⟨Nat.le_of_ble_eq_true rfl, Nat.le_of_ble_eq_true rfl⟩) ⟨MB.blind, M_recv hK hw, MB.pre hK hI hw va_P0 ne0⟩ rfl rfl hl.1 rfl (lv_room (Nat.le_of_ble_eq_true rfl)) dX11_kind_24 ⟨show 41 + 0 ≤ 41 by omega, show 1685 + 0 ≤ 1685 by omega⟩) (fun r11 μ10 H locs h hw => ?_)
      refine lv_if_eq (tgt := 32) hx hb dX11_kind_27 (by decide) (fun c12 => ?_) (fun c12 => ?_)
      · have h := h.1 c12
        refine lv_aload_nN hx hb dX11_kind_32 rfl (lv_at hl 0 rfl) ?_
        exact False.elim h
      have h := h.2 c12
      refine lv_iconst (v := (0 : Int32)) hx hb dX11_kind_30 (by decide) ?_
      exact hret H locs ls 31 _ _ _ _ _ hw h rfl (show 41 ≤ 41 by omega) (show 1685 ≤ 1685 by omega) dX11_kind_31
    obtain ⟨e6, h⟩ := h
    rw [e6] at hw
    have h := h.2 _ _ rfl
    have hw : MW D (MR ad cI μ2) [eI cI q7 n8 f9] (MA ad s.heap.size) s H locs := hw
    refine lv_astore_n (lv' := [(2, .ref q7), (0, .ref (ad 0)), (1, .int a1)]) hx hb dX11_kind_20 rfl hl (by decide) rfl (fun ls hl => ?_)
    refine lv_aload_n hx hb dX11_kind_21 rfl (lv_at hl 1 rfl) ?_
    refine lv_aload_n hx hb dX11_kind_22 rfl (lv_at hl 0 rfl) ?_
    refine lv_iconst (v := (2 : Int32)) hx hb dX11_kind_23 (by decide) ?_
    refine M_calli hw (MA.up hw.2.2.1.1) (va_runV (own := "LeastreaderModel") (As := [.ref q7, .int (2 : Int32)]) (rest := []) ⟨hx, hb, hml, hown, ht⟩ (c_X11_isCrowded q7 μ2 H.size n8 f9 (2 : Int32) h) (cwV 2 ht (G_V q_1524 q_1526 q_42 q_56 q_1527) rfl rfl rfl ⟨rfl, hd_109⟩ ⟨Nat.le_of_ble_eq_true rfl, Nat.le_of_ble_eq_true rfl⟩) ⟨MB.blind, M_recv hK hw, MB.pre hK hI hw (va_Pc2 (hw.n (j := 0) rfl) va_P0) (neC (hw.ne (j := 0) rfl) ne0)⟩ rfl rfl hl.1 rfl (lv_room (Nat.le_of_ble_eq_true rfl)) dX11_kind_24 ⟨show 41 + 0 ≤ 41 by omega, show 1685 + 0 ≤ 1685 by omega⟩) (fun r14 μ13 H locs h hw => ?_)
    refine lv_if_eq (tgt := 32) hx hb dX11_kind_27 (by decide) (fun c15 => ?_) (fun c15 => ?_)
    · have h := h.1 c15
      refine lv_aload_n hx hb dX11_kind_32 rfl (lv_at hl 0 rfl) ?_
      refine n_alenI hx hb hK (hw.n (j := 0) rfl) dX11_kind_33 ?_
      refine lv_iconst (v := (4 : Int32)) hx hb dX11_kind_34 (by decide) ?_
      refine lv_idiv hx hb dX11_kind_35 (by decide) ?_
      refine lv_istore_n (lv' := [(3, .int ((nI n8) / (4 : Int32))), (2, .ref q7), (0, .ref (ad 0)), (1, .int a1)]) hx hb dX11_kind_36 rfl hl (by decide) rfl (fun ls hl => ?_)
      refine lv_iload_n hx hb dX11_kind_37 rfl (lv_at hl 0 rfl) ?_
      refine lv_iconst (v := (1 : Int32)) hx hb dX11_kind_38 (by decide) ?_
      refine lv_icmp_ne (tgt := 46) hx hb dX11_kind_39 (by decide) (fun c16 => ?_) (fun c16 => ?_)
      · have h := h.1 c16
        refine lv_iload_n hx hb dX11_kind_46 rfl (lv_at hl 0 rfl) ?_
        refine lv_istore (lv' := [(4, .int ((nI n8) / (4 : Int32))), (3, .int ((nI n8) / (4 : Int32))), (2, .ref q7), (0, .ref (ad 0)), (1, .int a1)]) hx hb dX11_kind_47 hl (by decide) rfl (fun ls hl => ?_)
        obtain ⟨n23, h⟩ := h
        have L16 : ∀ (v19 : Int32), ∀ (n : Nat), ∀ (v18 : Int32), ∀ (H : Heap) (locs : List Loc) (ls : Array Slot), MW D (MR ad cI μ13) [eI cI q7 n8 f9] (MA ad s.heap.size) s H locs → lv_has ls 5 [(4, .int v18), (3, .int v19), (2, .ref q7)] → wpl_X11_kind_49 μ13 f9 n8 v19 Q n v18 → W p l e (RA 4 41 1685) s m #[.ref (ad 0), .int a1] below meth c H locs 41 1685 Z (F0 m 49 ls []) := by
          intro v19
          intro n
          induction n with
          | zero => intro v18 H locs ls hw hl h; exact False.elim h
          | succ n ih16 =>
            intro v18 H locs ls hw hl h
            change (((2 : Int32) * v19) ≤ v18 → (Q (2 : Int32) μ13)) ∧ (¬ ((2 : Int32) * v19) ≤ v18 → (wp_X11_isReached n8 f9 v18 (fun (r21 : Int32) => (r21 = 0 → (wpl_X11_kind_49 μ13 f9 n8 v19 Q n (v18 + (1 : Int32)))) ∧ (¬ r21 = 0 → (Q (3 : Int32) μ13))))) at h
            refine lv_iload hx hb dX11_kind_49 (lv_at hl 0 rfl) ?_
            refine lv_iconst (v := (2 : Int32)) hx hb dX11_kind_51 (by decide) ?_
            refine lv_iload_n hx hb dX11_kind_52 rfl (lv_at hl 1 rfl) ?_
            refine lv_imul hx hb dX11_kind_53 ?_
            refine lv_icmp_ge (tgt := 74) hx hb dX11_kind_54 (by decide) (fun c20 => ?_) (fun c20 => ?_)
            · have h := h.1 c20
              refine lv_iconst (v := (2 : Int32)) hx hb dX11_kind_74 (by decide) ?_
              exact hret H locs ls 75 _ _ _ _ _ hw h rfl (show 41 ≤ 41 by omega) (show 1685 ≤ 1685 by omega) dX11_kind_75
            have h := h.2 c20
            refine lv_aload_n hx hb dX11_kind_57 rfl (lv_at hl 2 rfl) ?_
            refine lv_iload hx hb dX11_kind_58 (lv_at hl 0 rfl) ?_
            refine S_calli hw (va_runS (own := "LeastreaderModel") (As := [.ref q7, .int v18]) (rest := []) ⟨hx, hb, hml, hown, ht⟩ (c_X11_isReached q7 H.size n8 f9 v18 h) (va_cwS 2 ht (G_S q_1549 q_1550 q_56 q_1551) rfl rfl rfl hd_110 ⟨Nat.le_of_ble_eq_true rfl, Nat.le_of_ble_eq_true rfl⟩) ⟨SB.blind, SB.pre hK (va_Pc2 (hw.n (j := 0) rfl) va_P0)⟩ rfl rfl hl.1 rfl (lv_room (Nat.le_of_ble_eq_true rfl)) dX11_kind_60 ⟨show 41 + 0 ≤ 41 by omega, show 1685 + 0 ≤ 1685 by omega⟩) (fun r21 H locs h hw => ?_)
            refine lv_if_eq (tgt := 68) hx hb dX11_kind_63 (by decide) (fun c22 => ?_) (fun c22 => ?_)
            · have h := h.1 c22
              refine lv_iinc (v := (v18 + (1 : Int32))) (lv' := [(4, .int (v18 + (1 : Int32))), (3, .int v19), (2, .ref q7)]) hx hb dX11_kind_68 hl (k := 0) rfl rfl (by decide) rfl (fun ls hl => ?_)
              refine lv_goto (tgt := 49) hx hb dX11_kind_71 (by decide) ?_
              exact ih16 (v18 + (1 : Int32)) H locs ls hw (lv_sub hl [0, 1, 2] rfl) h
            have h := h.2 c22
            refine lv_iconst (v := (3 : Int32)) hx hb dX11_kind_66 (by decide) ?_
            exact hret H locs ls 67 _ _ _ _ _ hw h rfl (show 41 ≤ 41 by omega) (show 1685 ≤ 1685 by omega) dX11_kind_67
        exact L16 ((nI n8) / (4 : Int32)) n23 ((nI n8) / (4 : Int32)) H locs ls hw (lv_sub hl [0, 1, 2] rfl) h
      have h := h.2 c16
      refine lv_aload_n hx hb dX11_kind_42 rfl (lv_at hl 1 rfl) ?_
      refine lv_iconst (v := (3 : Int32)) hx hb dX11_kind_43 (by decide) ?_
      obtain ⟨z24, h⟩ := h
      refine n_iald hx hb hK (hw.n (j := 0) rfl) z24 dX11_kind_44 ?_
      exact hret H locs ls 45 _ _ _ _ _ hw h rfl (show 41 ≤ 41 by omega) (show 1685 ≤ 1685 by omega) dX11_kind_45
    have h := h.2 c15
    refine lv_iconst (v := (0 : Int32)) hx hb dX11_kind_30 (by decide) ?_
    exact hret H locs ls 31 _ _ _ _ _ hw h rfl (show 41 ≤ 41 by omega) (show 1685 ≤ 1685 by omega) dX11_kind_31
  have h := h.2 c4
  refine lv_iconst (v := (0 : Int32)) hx hb dX11_kind_12 (by decide) ?_
  exact hret H locs ls 13 _ _ _ _ _ hw h rfl (show 0 ≤ 41 by omega) (show 0 ≤ 1685 by omega) dX11_kind_13
def wpl_X11_many_94 (μ5 : TMem) (v12 : Int32) (v13 : Int32) (Q : Int32 → TMem → Prop) : Nat → Int32 → Int32 → Prop
  | 0, _, _ => False
  | n + 1, v10, v11 =>
    wp_X11_power v13 (fun (r14 : Int32) => (r14 ≤ v10 → (Q v11 μ5)) ∧ (¬ r14 ≤ v10 → (wp_X11_setAfter μ5 v12 v13 v10 (fun (r18 : Int32) => vp_in v12 (ml 3) ∧ (((r18 &&& (μ5 3 v12.toNatClampNeg)) = 0 → (wpl_X11_many_94 μ5 v12 v13 Q n (v10 + (1 : Int32)) (v11 + (0 : Int32)))) ∧ (¬ (r18 &&& (μ5 3 v12.toNatClampNeg)) = 0 → (wpl_X11_many_94 μ5 v12 v13 Q n (v10 + (1 : Int32)) (v11 + (1 : Int32)))))))))
def wp_X11_many (μ : TMem) (a1 : Int32) (a2 : Int32) (a3 : Int32) (Q : Int32 → TMem → Prop) : Prop :=
  wp_X11_isOne a1 (fun (r1 : Int32) => wp_X11_isIn a2 (0 : Int32) (12 : Int32) (fun (r2 : Int32) => ∀ J3 : Int32 → Prop, (∀ (j4 : Int32), (wp_X11_isThrown μ r1 j4 (fun (r6 : Int32) (μ5 : TMem) => (r6 = 0 → ((¬ a3 = 0 → (∃ n8x, wpl_X11_many_94 μ5 a1 a2 Q n8x (0 : Int32) (0 : Int32))) ∧ (a3 = 0 → (wp_X11_found μ5 a1 (0 : Int32) (fun (r37 : Option AI) => (r37 = none → (wp_X11_isCrowded_n μ5 (3 : Int32) (fun (r28 : Int32) (μ27 : TMem) => (r28 = 0 → (False)) ∧ (¬ r28 = 0 → (Q (0 : Int32) μ27))))) ∧ (∀ (n25 : Nat) (f26 : Nat → Int32), r37 = some (n25, f26) → (wp_X11_isCrowded μ5 n25 f26 (3 : Int32) (fun (r31 : Int32) (μ30 : TMem) => (r31 = 0 → (wp_X11_ways n25 f26 a2 (fun (n34 : Nat) (f35 : Nat → Int32) => vp_in (a2 * ((nI n25) / (4 : Int32))) n34 ∧ (Q (f35 (a2 * ((nI n25) / (4 : Int32))).toNatClampNeg) μ30)))) ∧ (¬ r31 = 0 → (Q (0 : Int32) μ30)))))))))) ∧ (¬ r6 = 0 → (Q (0 : Int32) μ5)))) → J3 j4) → ((r2 = 0 → (J3 (0 : Int32))) ∧ (¬ r2 = 0 → (wp_X11_isIn a3 (0 : Int32) (1 : Int32) (fun (r39 : Int32) => (r39 = 0 → (J3 (0 : Int32))) ∧ (¬ r39 = 0 → ((a3 = 0 → (J3 (1 : Int32))) ∧ (¬ a3 = 0 → (((6 : Int32) ≤ a2 → (J3 (0 : Int32))) ∧ (¬ (6 : Int32) ≤ a2 → (J3 (1 : Int32)))))))))))))
set_option maxHeartbeats 4000000 in
set_option maxRecDepth 100000 in
theorem c_X11_many {l : Launch} {D : va_G} {ad : Nat → Nat} {cI cL : ClassId}  (μ : TMem) (sz : Nat) (a1 : Int32) (a2 : Int32) (a3 : Int32)  {Q : Int32 → TMem → Prop} (h : wp_X11_many μ a1 a2 a3 Q) : MMi l yX11_many (.code yX11_many cX11_many 6 (Option.some Jvm.ClassFile.FieldType.int)) 4 42 2101 [.ref (ad 0), .int a1, .int a2, .int a3] D ad cI cL sz μ [] Q := by
  refine M_meti (by decide +kernel) (Nat.le_of_ble_eq_true rfl) ?_
  intro p e s m below meth c Z ls hx hb hml hown ht hK hP0 hI hne hw hret hl
  have hl : lv_has ls 6 [(0, .ref (ad 0)), (1, .int a1), (2, .int a2), (3, .int a3)] := hl
  suffices hh : ∀ (H : Heap) (locs : List Loc), MW D (MR ad cI μ) [] (MA ad s.heap.size) s H locs → W p l e (RA 4 42 2101) s m #[.ref (ad 0), .int a1, .int a2, .int a3] below meth c H locs 0 0 Z (F0 m 0 ls []) from hh _ _ hw
  intro H locs hw
  change wp_X11_isOne a1 (fun (r1 : Int32) => wp_X11_isIn a2 (0 : Int32) (12 : Int32) (fun (r2 : Int32) => ∀ J3 : Int32 → Prop, (∀ (j4 : Int32), (wp_X11_isThrown μ r1 j4 (fun (r6 : Int32) (μ5 : TMem) => (r6 = 0 → ((¬ a3 = 0 → (∃ n8x, wpl_X11_many_94 μ5 a1 a2 Q n8x (0 : Int32) (0 : Int32))) ∧ (a3 = 0 → (wp_X11_found μ5 a1 (0 : Int32) (fun (r37 : Option AI) => (r37 = none → (wp_X11_isCrowded_n μ5 (3 : Int32) (fun (r28 : Int32) (μ27 : TMem) => (r28 = 0 → (False)) ∧ (¬ r28 = 0 → (Q (0 : Int32) μ27))))) ∧ (∀ (n25 : Nat) (f26 : Nat → Int32), r37 = some (n25, f26) → (wp_X11_isCrowded μ5 n25 f26 (3 : Int32) (fun (r31 : Int32) (μ30 : TMem) => (r31 = 0 → (wp_X11_ways n25 f26 a2 (fun (n34 : Nat) (f35 : Nat → Int32) => vp_in (a2 * ((nI n25) / (4 : Int32))) n34 ∧ (Q (f35 (a2 * ((nI n25) / (4 : Int32))).toNatClampNeg) μ30)))) ∧ (¬ r31 = 0 → (Q (0 : Int32) μ30)))))))))) ∧ (¬ r6 = 0 → (Q (0 : Int32) μ5)))) → J3 j4) → ((r2 = 0 → (J3 (0 : Int32))) ∧ (¬ r2 = 0 → (wp_X11_isIn a3 (0 : Int32) (1 : Int32) (fun (r39 : Int32) => (r39 = 0 → (J3 (0 : Int32))) ∧ (¬ r39 = 0 → ((a3 = 0 → (J3 (1 : Int32))) ∧ (¬ a3 = 0 → (((6 : Int32) ≤ a2 → (J3 (0 : Int32))) ∧ (¬ (6 : Int32) ≤ a2 → (J3 (1 : Int32))))))))))))) at h
  refine lv_aload_n hx hb dX11_many_0 rfl (lv_at hl 0 rfl) ?_
  refine lv_iload_n hx hb dX11_many_1 rfl (lv_at hl 1 rfl) ?_
  refine P_calli (va_runS (own := "LeastreaderModel") (As := [.int a1]) (rest := [.ref (ad 0)]) ⟨hx, hb, hml, hown, ht⟩ (c_X11_isOne a1 h) (va_cwS 1 ht (G_S q_1346 q_1347 q_56 q_1348) rfl rfl rfl hd_91 ⟨Nat.le_of_ble_eq_true rfl, Nat.le_of_ble_eq_true rfl⟩) ⟨PM_blind, PM_pre⟩ rfl rfl hl.1 rfl (lv_room (Nat.le_of_ble_eq_true rfl)) dX11_many_2 ⟨show 0 + 0 ≤ 42 by omega, show 0 + 0 ≤ 2101 by omega⟩) (fun r1 h => ?_)
  refine lv_iload_n hx hb dX11_many_5 rfl (lv_at hl 2 rfl) ?_
  refine lv_iconst (v := (0 : Int32)) hx hb dX11_many_6 (by decide) ?_
  refine lv_bipush (v := (12 : Int32)) hx hb dX11_many_7 (by decide) ?_
  refine P_calli (va_runS (own := "LeastreaderModel") (As := [.int a2, .int (0 : Int32), .int (12 : Int32)]) (rest := [.int r1, .ref (ad 0)]) ⟨hx, hb, hml, hown, ht⟩ (c_X11_isIn a2 (0 : Int32) (12 : Int32) h) (va_cwS 3 ht (G_S q_1349 q_1350 q_56 q_1351) rfl rfl rfl hd_78 ⟨Nat.le_of_ble_eq_true rfl, Nat.le_of_ble_eq_true rfl⟩) ⟨PM_blind, PM_pre⟩ rfl rfl hl.1 rfl (lv_room (Nat.le_of_ble_eq_true rfl)) dX11_many_9 ⟨show 0 + 0 ≤ 42 by omega, show 0 + 0 ≤ 2101 by omega⟩) (fun r2 h => ?_)
  have h := h (fun (j4 : Int32) => ∀ (H : Heap) (locs : List Loc) (ls : Array Slot), MW D (MR ad cI μ) [] (MA ad s.heap.size) s H locs → lv_has ls 6 [(0, .ref (ad 0)), (1, .int a1), (2, .int a2), (3, .int a3)] → W p l e (RA 4 42 2101) s m #[.ref (ad 0), .int a1, .int a2, .int a3] below meth c H locs 0 0 Z (F0 m 39 ls [.int j4, .int r1, .ref (ad 0)])) (fun j4 h H locs ls hw hl => by
    refine M_calli hw (MA.up hw.2.2.1.1) (va_runV (own := "LeastreaderModel") (As := [.int r1, .int j4]) (rest := []) ⟨hx, hb, hml, hown, ht⟩ (c_X11_isThrown μ H.size r1 j4 h) (cwV 2 ht (G_V q_1352 q_1354 q_26 q_56 q_1355) rfl rfl rfl ⟨rfl, hd_92⟩ ⟨Nat.le_of_ble_eq_true rfl, Nat.le_of_ble_eq_true rfl⟩) ⟨MB.blind, M_recv hK hw, MB.pre hK hI hw va_P0 ne0⟩ rfl rfl hl.1 rfl (lv_room (Nat.le_of_ble_eq_true rfl)) dX11_many_39 ⟨show 0 + 0 ≤ 42 by omega, show 0 + 0 ≤ 2101 by omega⟩) (fun r6 μ5 H locs h hw => ?_)
    refine lv_if_eq (tgt := 47) hx hb dX11_many_42 (by decide) (fun c7 => ?_) (fun c7 => ?_)
    · have h := h.1 c7
      refine lv_iload_n hx hb dX11_many_47 rfl (lv_at hl 3 rfl) ?_
      refine lv_if_ne (tgt := 88) hx hb dX11_many_48 (by decide) (fun c8 => ?_) (fun c8 => ?_)
      · have h := h.1 c8
        refine lv_iconst (v := (0 : Int32)) hx hb dX11_many_88 (by decide) ?_
        refine lv_istore (lv' := [(4, .int (0 : Int32)), (0, .ref (ad 0)), (1, .int a1), (2, .int a2), (3, .int a3)]) hx hb dX11_many_89 hl (by decide) rfl (fun ls hl => ?_)
        refine lv_iconst (v := (0 : Int32)) hx hb dX11_many_91 (by decide) ?_
        refine lv_istore (lv' := [(5, .int (0 : Int32)), (4, .int (0 : Int32)), (0, .ref (ad 0)), (1, .int a1), (2, .int a2), (3, .int a3)]) hx hb dX11_many_92 hl (by decide) rfl (fun ls hl => ?_)
        obtain ⟨n21, h⟩ := h
        have L8 : ∀ (v12 : Int32) (v13 : Int32), ∀ (n : Nat), ∀ (v10 : Int32) (v11 : Int32), ∀ (H : Heap) (locs : List Loc) (ls : Array Slot), MW D (MR ad cI μ5) [] (MA ad s.heap.size) s H locs → lv_has ls 6 [(5, .int v10), (4, .int v11), (0, .ref (ad 0)), (1, .int v12), (2, .int v13)] → wpl_X11_many_94 μ5 v12 v13 Q n v10 v11 → W p l e (RA 4 42 2101) s m #[.ref (ad 0), .int a1, .int a2, .int a3] below meth c H locs 0 0 Z (F0 m 94 ls []) := by
          intro v12 v13
          intro n
          induction n with
          | zero => intro v10 v11 H locs ls hw hl h; exact False.elim h
          | succ n ih8 =>
            intro v10 v11 H locs ls hw hl h
            change wp_X11_power v13 (fun (r14 : Int32) => (r14 ≤ v10 → (Q v11 μ5)) ∧ (¬ r14 ≤ v10 → (wp_X11_setAfter μ5 v12 v13 v10 (fun (r18 : Int32) => vp_in v12 (ml 3) ∧ (((r18 &&& (μ5 3 v12.toNatClampNeg)) = 0 → (wpl_X11_many_94 μ5 v12 v13 Q n (v10 + (1 : Int32)) (v11 + (0 : Int32)))) ∧ (¬ (r18 &&& (μ5 3 v12.toNatClampNeg)) = 0 → (wpl_X11_many_94 μ5 v12 v13 Q n (v10 + (1 : Int32)) (v11 + (1 : Int32))))))))) at h
            refine lv_iload hx hb dX11_many_94 (lv_at hl 0 rfl) ?_
            refine lv_iload_n hx hb dX11_many_96 rfl (lv_at hl 4 rfl) ?_
            refine P_calli (va_runS (own := "LeastreaderModel") (As := [.int v13]) (rest := [.int v10]) ⟨hx, hb, hml, hown, ht⟩ (c_X11_power v13 h) (va_cwS 1 ht (G_S q_1513 q_1514 q_56 q_1515) rfl rfl rfl hd_106 ⟨Nat.le_of_ble_eq_true rfl, Nat.le_of_ble_eq_true rfl⟩) ⟨PM_blind, PM_pre⟩ rfl rfl hl.1 rfl (lv_room (Nat.le_of_ble_eq_true rfl)) dX11_many_97 ⟨show 0 + 0 ≤ 42 by omega, show 0 + 0 ≤ 2101 by omega⟩) (fun r14 h => ?_)
            refine lv_icmp_ge (tgt := 137) hx hb dX11_many_100 (by decide) (fun c15 => ?_) (fun c15 => ?_)
            · have h := h.1 c15
              refine lv_iload hx hb dX11_many_137 (lv_at hl 1 rfl) ?_
              exact hret H locs ls 139 _ _ _ _ _ hw h rfl (show 0 ≤ 42 by omega) (show 0 ≤ 2101 by omega) dX11_many_139
            have h := h.2 c15
            refine lv_iload hx hb dX11_many_103 (lv_at hl 1 rfl) ?_
            refine lv_aload_n hx hb dX11_many_105 rfl (lv_at hl 2 rfl) ?_
            refine lv_iload_n hx hb dX11_many_106 rfl (lv_at hl 3 rfl) ?_
            refine lv_iload_n hx hb dX11_many_107 rfl (lv_at hl 4 rfl) ?_
            refine lv_iload hx hb dX11_many_108 (lv_at hl 0 rfl) ?_
            refine M_calli hw (MA.up hw.2.2.1.1) (va_runV (own := "LeastreaderModel") (As := [.int v12, .int v13, .int v10]) (rest := [.int v11]) ⟨hx, hb, hml, hown, ht⟩ (c_X11_setAfter μ5 H.size v12 v13 v10 h) (cwV 3 ht (G_V q_1516 q_1518 q_41 q_56 q_1519) rfl rfl rfl ⟨rfl, hd_108⟩ ⟨Nat.le_of_ble_eq_true rfl, Nat.le_of_ble_eq_true rfl⟩) ⟨MB.blind, M_recv hK hw, MB.pre hK hI hw va_P0 ne0⟩ rfl rfl hl.1 rfl (lv_room (Nat.le_of_ble_eq_true rfl)) dX11_many_110 ⟨show 0 + 0 ≤ 42 by omega, show 0 + 0 ≤ 2101 by omega⟩) (fun r18 μ16 H locs h hw => ?_)
            obtain ⟨e17, h⟩ := h
            rw [e17] at hw
            refine lv_aload_n hx hb dX11_many_113 rfl (lv_at hl 2 rfl) ?_
            refine m_get (i := 2) hx hb ht hown hK hw (by decide) (ht _ q_1315) rfl rfl dX11_many_114 ?_
            refine lv_iload_n hx hb dX11_many_117 rfl (lv_at hl 3 rfl) ?_
            obtain ⟨z19, h⟩ := h
            refine m_iald hx hb hK hw (by decide) z19 dX11_many_118 ?_
            refine lv_iand hx hb dX11_many_119 ?_
            refine lv_if_eq (tgt := 127) hx hb dX11_many_120 (by decide) (fun c20 => ?_) (fun c20 => ?_)
            · have h := h.1 c20
              refine lv_iconst (v := (0 : Int32)) hx hb dX11_many_127 (by decide) ?_
              refine lv_iadd hx hb dX11_many_128 ?_
              refine lv_istore (lv' := [(4, .int (v11 + (0 : Int32))), (5, .int v10), (0, .ref (ad 0)), (1, .int v12), (2, .int v13)]) hx hb dX11_many_129 hl (by decide) rfl (fun ls hl => ?_)
              refine lv_iinc (v := (v10 + (1 : Int32))) (lv' := [(5, .int (v10 + (1 : Int32))), (4, .int (v11 + (0 : Int32))), (0, .ref (ad 0)), (1, .int v12), (2, .int v13)]) hx hb dX11_many_131 hl (k := 1) rfl rfl (by decide) rfl (fun ls hl => ?_)
              refine lv_goto (tgt := 94) hx hb dX11_many_134 (by decide) ?_
              exact ih8 (v10 + (1 : Int32)) (v11 + (0 : Int32)) H locs ls hw (lv_sub hl [0, 1, 2, 3, 4] rfl) h
            have h := h.2 c20
            refine lv_iconst (v := (1 : Int32)) hx hb dX11_many_123 (by decide) ?_
            refine lv_goto (tgt := 128) hx hb dX11_many_124 (by decide) ?_
            refine lv_iadd hx hb dX11_many_128 ?_
            refine lv_istore (lv' := [(4, .int (v11 + (1 : Int32))), (5, .int v10), (0, .ref (ad 0)), (1, .int v12), (2, .int v13)]) hx hb dX11_many_129 hl (by decide) rfl (fun ls hl => ?_)
            refine lv_iinc (v := (v10 + (1 : Int32))) (lv' := [(5, .int (v10 + (1 : Int32))), (4, .int (v11 + (1 : Int32))), (0, .ref (ad 0)), (1, .int v12), (2, .int v13)]) hx hb dX11_many_131 hl (k := 1) rfl rfl (by decide) rfl (fun ls hl => ?_)
            refine lv_goto (tgt := 94) hx hb dX11_many_134 (by decide) ?_
            exact ih8 (v10 + (1 : Int32)) (v11 + (1 : Int32)) H locs ls hw (lv_sub hl [0, 1, 2, 3, 4] rfl) h
        exact L8 a1 a2 n21 (0 : Int32) (0 : Int32) H locs ls hw (lv_sub hl [0, 1, 2, 3, 4] rfl) h
      have h := h.2 c8
      refine lv_aload_n hx hb dX11_many_51 rfl (lv_at hl 0 rfl) ?_
      refine lv_iload_n hx hb dX11_many_52 rfl (lv_at hl 1 rfl) ?_
      refine lv_iconst (v := (0 : Int32)) hx hb dX11_many_53 (by decide) ?_
      refine M_callA hw (MA.up hw.2.2.1.1) (va_runV (own := "LeastreaderModel") (As := [.int a1, .int (0 : Int32)]) (rest := []) ⟨hx, hb, hml, hown, ht⟩ (c_X11_found μ5 H.size a1 (0 : Int32) h) (cwV 2 ht (G_V q_1452 q_1454 q_36 q_56 q_1455) rfl rfl rfl ⟨rfl, hd_103⟩ ⟨Nat.le_of_ble_eq_true rfl, Nat.le_of_ble_eq_true rfl⟩) ⟨MB.blind, M_recv hK hw, MB.pre hK hI hw va_P0 ne0⟩ rfl rfl hl.1 rfl (lv_room (Nat.le_of_ble_eq_true rfl)) dX11_many_54 ⟨show 0 + 41 ≤ 42 by omega, show 0 + 1685 ≤ 2101 by omega⟩) (fun μ22 H locs h hw => ?_) (fun q24 n25 f26 μ22 H locs hq24 h hw => ?_)
      · skip
        obtain ⟨e23, h⟩ := h
        rw [e23] at hw
        have h := h.1 rfl
        refine lv_astoreN (lv' := [(4, .null), (0, .ref (ad 0)), (1, .int a1), (2, .int a2), (3, .int a3)]) hx hb dX11_many_57 hl (by decide) rfl (fun ls hl => ?_)
        refine lv_aload_n hx hb dX11_many_59 rfl (lv_at hl 1 rfl) ?_
        refine lv_aloadN hx hb dX11_many_60 (lv_at hl 0 rfl) ?_
        refine lv_iconst (v := (3 : Int32)) hx hb dX11_many_62 (by decide) ?_
        refine M_calli hw (MA.up hw.2.2.1.1) (va_runV (own := "LeastreaderModel") (As := [.null, .int (3 : Int32)]) (rest := []) ⟨hx, hb, hml, hown, ht⟩ (c_X11_isCrowded_n μ5 H.size (3 : Int32) h) (cwV 2 ht (G_V q_1524 q_1526 q_42 q_56 q_1527) rfl rfl rfl ⟨rfl, hd_109⟩ ⟨Nat.le_of_ble_eq_true rfl, Nat.le_of_ble_eq_true rfl⟩) ⟨MB.blind, M_recv hK hw, MB.pre hK hI hw va_P0 ne0⟩ rfl rfl hl.1 rfl (lv_room (Nat.le_of_ble_eq_true rfl)) dX11_many_63 ⟨show 41 + 0 ≤ 42 by omega, show 1685 + 0 ≤ 2101 by omega⟩) (fun r28 μ27 H locs h hw => ?_)
        refine lv_if_eq (tgt := 73) hx hb dX11_many_66 (by decide) (fun c29 => ?_) (fun c29 => ?_)
        · have h := h.1 c29
          refine lv_aloadN hx hb dX11_many_73 (lv_at hl 0 rfl) ?_
          refine lv_iload_n hx hb dX11_many_75 rfl (lv_at hl 3 rfl) ?_
          exact False.elim h
        have h := h.2 c29
        refine lv_iconst (v := (0 : Int32)) hx hb dX11_many_69 (by decide) ?_
        refine lv_goto (tgt := 87) hx hb dX11_many_70 (by decide) ?_
        exact hret H locs ls 87 _ _ _ _ _ hw h rfl (show 41 ≤ 42 by omega) (show 1685 ≤ 2101 by omega) dX11_many_87
      obtain ⟨e23, h⟩ := h
      rw [e23] at hw
      have h := h.2 _ _ rfl
      have hw : MW D (MR ad cI μ5) [eI cI q24 n25 f26] (MA ad s.heap.size) s H locs := hw
      refine lv_astore (lv' := [(4, .ref q24), (0, .ref (ad 0)), (1, .int a1), (2, .int a2), (3, .int a3)]) hx hb dX11_many_57 hl (by decide) rfl (fun ls hl => ?_)
      refine lv_aload_n hx hb dX11_many_59 rfl (lv_at hl 1 rfl) ?_
      refine lv_aload hx hb dX11_many_60 (lv_at hl 0 rfl) ?_
      refine lv_iconst (v := (3 : Int32)) hx hb dX11_many_62 (by decide) ?_
      refine M_calli hw (MA.up hw.2.2.1.1) (va_runV (own := "LeastreaderModel") (As := [.ref q24, .int (3 : Int32)]) (rest := []) ⟨hx, hb, hml, hown, ht⟩ (c_X11_isCrowded q24 μ5 H.size n25 f26 (3 : Int32) h) (cwV 2 ht (G_V q_1524 q_1526 q_42 q_56 q_1527) rfl rfl rfl ⟨rfl, hd_109⟩ ⟨Nat.le_of_ble_eq_true rfl, Nat.le_of_ble_eq_true rfl⟩) ⟨MB.blind, M_recv hK hw, MB.pre hK hI hw (va_Pc2 (hw.n (j := 0) rfl) va_P0) (neC (hw.ne (j := 0) rfl) ne0)⟩ rfl rfl hl.1 rfl (lv_room (Nat.le_of_ble_eq_true rfl)) dX11_many_63 ⟨show 41 + 0 ≤ 42 by omega, show 1685 + 0 ≤ 2101 by omega⟩) (fun r31 μ30 H locs h hw => ?_)
      refine lv_if_eq (tgt := 73) hx hb dX11_many_66 (by decide) (fun c32 => ?_) (fun c32 => ?_)
      · have h := h.1 c32
        refine lv_aload hx hb dX11_many_73 (lv_at hl 0 rfl) ?_
        refine lv_iload_n hx hb dX11_many_75 rfl (lv_at hl 3 rfl) ?_
        refine S_callA hw (va_runS (own := "LeastreaderModel") (As := [.ref q24, .int a2]) (rest := []) ⟨hx, hb, hml, hown, ht⟩ (c_X11_ways q24 H.size n25 f26 a2 h) (va_cwS 2 ht (G_S q_1556 q_1557 q_56 q_1558) rfl rfl rfl hd_111 ⟨Nat.le_of_ble_eq_true rfl, Nat.le_of_ble_eq_true rfl⟩) ⟨SB.blind, SB.pre hK (va_Pc2 (hw.n (j := 0) rfl) va_P0)⟩ rfl rfl hl.1 rfl (lv_room (Nat.le_of_ble_eq_true rfl)) dX11_many_76 ⟨show 41 + 1 ≤ 42 by omega, show 1685 + 416 ≤ 2101 by omega⟩) (fun _ _ h _ => by obtain ⟨_, _, h, _⟩ := h; cases h) (fun q33 n34 f35 H locs hq33 h hw => ?_)
        obtain ⟨_, _, e9, h⟩ := h
        cases e9
        have hw : MW D (MR ad cI μ30) [eI cI q24 n25 f26, eI cI q33 n34 f35] (MA ad s.heap.size) s H locs := hw
        refine lv_iload_n hx hb dX11_many_79 rfl (lv_at hl 3 rfl) ?_
        refine lv_aload hx hb dX11_many_80 (lv_at hl 0 rfl) ?_
        refine n_alenI hx hb hK (hw.n (j := 0) rfl) dX11_many_82 ?_
        refine lv_iconst (v := (4 : Int32)) hx hb dX11_many_83 (by decide) ?_
        refine lv_idiv hx hb dX11_many_84 (by decide) ?_
        refine lv_imul hx hb dX11_many_85 ?_
        obtain ⟨z36, h⟩ := h
        refine n_iald hx hb hK (hw.n (j := 1) rfl) z36 dX11_many_86 ?_
        exact hret H locs ls 87 _ _ _ _ _ hw h rfl (show 42 ≤ 42 by omega) (show 2101 ≤ 2101 by omega) dX11_many_87
      have h := h.2 c32
      refine lv_iconst (v := (0 : Int32)) hx hb dX11_many_69 (by decide) ?_
      refine lv_goto (tgt := 87) hx hb dX11_many_70 (by decide) ?_
      exact hret H locs ls 87 _ _ _ _ _ hw h rfl (show 41 ≤ 42 by omega) (show 1685 ≤ 2101 by omega) dX11_many_87
    have h := h.2 c7
    refine lv_iconst (v := (0 : Int32)) hx hb dX11_many_45 (by decide) ?_
    exact hret H locs ls 46 _ _ _ _ _ hw h rfl (show 0 ≤ 42 by omega) (show 0 ≤ 2101 by omega) dX11_many_46)
  refine lv_if_eq (tgt := 38) hx hb dX11_many_12 (by decide) (fun c38 => ?_) (fun c38 => ?_)
  · have h := h.1 c38
    refine lv_iconst (v := (0 : Int32)) hx hb dX11_many_38 (by decide) ?_
    exact h H locs ls hw (lv_sub hl [0, 1, 2, 3] rfl)
  have h := h.2 c38
  refine lv_iload_n hx hb dX11_many_15 rfl (lv_at hl 3 rfl) ?_
  refine lv_iconst (v := (0 : Int32)) hx hb dX11_many_16 (by decide) ?_
  refine lv_iconst (v := (1 : Int32)) hx hb dX11_many_17 (by decide) ?_
  refine P_calli (va_runS (own := "LeastreaderModel") (As := [.int a3, .int (0 : Int32), .int (1 : Int32)]) (rest := [.int r1, .ref (ad 0)]) ⟨hx, hb, hml, hown, ht⟩ (c_X11_isIn a3 (0 : Int32) (1 : Int32) h) (va_cwS 3 ht (G_S q_1349 q_1350 q_56 q_1351) rfl rfl rfl hd_78 ⟨Nat.le_of_ble_eq_true rfl, Nat.le_of_ble_eq_true rfl⟩) ⟨PM_blind, PM_pre⟩ rfl rfl hl.1 rfl (lv_room (Nat.le_of_ble_eq_true rfl)) dX11_many_18 ⟨show 0 + 0 ≤ 42 by omega, show 0 + 0 ≤ 2101 by omega⟩) (fun r39 h => ?_)
  refine lv_if_eq (tgt := 38) hx hb dX11_many_21 (by decide) (fun c40 => ?_) (fun c40 => ?_)
  · have h := h.1 c40
    refine lv_iconst (v := (0 : Int32)) hx hb dX11_many_38 (by decide) ?_
    exact h H locs ls hw (lv_sub hl [0, 1, 2, 3] rfl)
  have h := h.2 c40
  refine lv_iload_n hx hb dX11_many_24 rfl (lv_at hl 3 rfl) ?_
  refine lv_if_eq (tgt := 34) hx hb dX11_many_25 (by decide) (fun c41 => ?_) (fun c41 => ?_)
  · have h := h.1 c41
    refine lv_iconst (v := (1 : Int32)) hx hb dX11_many_34 (by decide) ?_
    refine lv_goto (tgt := 39) hx hb dX11_many_35 (by decide) ?_
    exact h H locs ls hw (lv_sub hl [0, 1, 2, 3] rfl)
  have h := h.2 c41
  refine lv_iload_n hx hb dX11_many_28 rfl (lv_at hl 2 rfl) ?_
  refine lv_bipush (v := (6 : Int32)) hx hb dX11_many_29 (by decide) ?_
  refine lv_icmp_ge (tgt := 38) hx hb dX11_many_31 (by decide) (fun c42 => ?_) (fun c42 => ?_)
  · have h := h.1 c42
    refine lv_iconst (v := (0 : Int32)) hx hb dX11_many_38 (by decide) ?_
    exact h H locs ls hw (lv_sub hl [0, 1, 2, 3] rfl)
  have h := h.2 c42
  refine lv_iconst (v := (1 : Int32)) hx hb dX11_many_34 (by decide) ?_
  refine lv_goto (tgt := 39) hx hb dX11_many_35 (by decide) ?_
  exact h H locs ls hw (lv_sub hl [0, 1, 2, 3] rfl)
