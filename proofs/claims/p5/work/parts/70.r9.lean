def wp_X11_other (μ : TMem) (a1 : Int32) (Q : Int32 → TMem → Prop) : Prop :=
  wp_X11_isOne a1 (fun (r1 : Int32) => wp_X11_isThrown μ r1 (1 : Int32) (fun (r3 : Int32) (μ2 : TMem) => (r3 = 0 → (wp_X11_isPlain μ2 a1 (fun (r7 : Int32) => (¬ r7 = 0 → (vp_in a1 (ml 3) ∧ (vp_in a1 (ml 1) ∧ (vp_in a1 (ml 3) ∧ (vp_in a1 (ml 3) ∧ (wp_J6_bitCount_0f7a4 ((tms μ2 3 a1.toNatClampNeg ((μ2 3 a1.toNatClampNeg) ^^^ (((1 : Int32) <<< ((μ2 1 a1.toNatClampNeg) &&& 31)) - (1 : Int32)))) 3 a1.toNatClampNeg) (fun (r13 : Int32) => wp_X11_did (tms μ2 3 a1.toNatClampNeg ((μ2 3 a1.toNatClampNeg) ^^^ (((1 : Int32) <<< ((μ2 1 a1.toNatClampNeg) &&& 31)) - (1 : Int32)))) r13 (fun (r15 : Int32) (μ14 : TMem) => Q r15 μ14)))))))) ∧ (r7 = 0 → (wp_X11_refuse μ2 (fun (r17 : Int32) (μ16 : TMem) => Q r17 μ16)))))) ∧ (¬ r3 = 0 → (Q (0 : Int32) μ2))))
set_option maxHeartbeats 4000000 in
set_option maxRecDepth 100000 in
theorem c_X11_other {l : Launch} {D : va_G} {ad : Nat → Nat} {cI cL : ClassId}  (μ : TMem) (sz : Nat) (a1 : Int32)  {Q : Int32 → TMem → Prop} (h : wp_X11_other μ a1 Q) : MMi l yX11_other (.code yX11_other cX11_other 2 (Option.some Jvm.ClassFile.FieldType.int)) 2 0 0 [.ref (ad 0), .int a1] D ad cI cL sz μ [] Q := by
  refine M_meti (by decide +kernel) (Nat.le_of_ble_eq_true rfl) ?_
  intro p e s m below meth c Z ls hx hb hml hown ht hK hP0 hI hne hw hret hl
  have hl : lv_has ls 2 [(0, .ref (ad 0)), (1, .int a1)] := hl
  suffices hh : ∀ (H : Heap) (locs : List Loc), MW D (MR ad cI μ) [] (MA ad s.heap.size) s H locs → W p l e (RA 2 0 0) s m #[.ref (ad 0), .int a1] below meth c H locs 0 0 Z (F0 m 0 ls []) from hh _ _ hw
  intro H locs hw
  change wp_X11_isOne a1 (fun (r1 : Int32) => wp_X11_isThrown μ r1 (1 : Int32) (fun (r3 : Int32) (μ2 : TMem) => (r3 = 0 → (wp_X11_isPlain μ2 a1 (fun (r7 : Int32) => (¬ r7 = 0 → (vp_in a1 (ml 3) ∧ (vp_in a1 (ml 1) ∧ (vp_in a1 (ml 3) ∧ (vp_in a1 (ml 3) ∧ (wp_J6_bitCount_0f7a4 ((tms μ2 3 a1.toNatClampNeg ((μ2 3 a1.toNatClampNeg) ^^^ (((1 : Int32) <<< ((μ2 1 a1.toNatClampNeg) &&& 31)) - (1 : Int32)))) 3 a1.toNatClampNeg) (fun (r13 : Int32) => wp_X11_did (tms μ2 3 a1.toNatClampNeg ((μ2 3 a1.toNatClampNeg) ^^^ (((1 : Int32) <<< ((μ2 1 a1.toNatClampNeg) &&& 31)) - (1 : Int32)))) r13 (fun (r15 : Int32) (μ14 : TMem) => Q r15 μ14)))))))) ∧ (r7 = 0 → (wp_X11_refuse μ2 (fun (r17 : Int32) (μ16 : TMem) => Q r17 μ16)))))) ∧ (¬ r3 = 0 → (Q (0 : Int32) μ2)))) at h
  refine lv_aload_n hx hb dX11_other_0 rfl (lv_at hl 0 rfl) ?_
  refine lv_iload_n hx hb dX11_other_1 rfl (lv_at hl 1 rfl) ?_
  refine P_calli (va_runS (own := "LeastreaderModel") (As := [.int a1]) (rest := [.ref (ad 0)]) ⟨hx, hb, hml, hown, ht⟩ (c_X11_isOne a1 h) (va_cwS 1 ht (G_S q_1346 q_1347 q_56 q_1348) rfl rfl rfl hd_91 ⟨Nat.le_of_ble_eq_true rfl, Nat.le_of_ble_eq_true rfl⟩) ⟨PM_blind, PM_pre⟩ rfl rfl hl.1 rfl (lv_room (Nat.le_of_ble_eq_true rfl)) dX11_other_2 ⟨show 0 + 0 ≤ 0 by omega, show 0 + 0 ≤ 0 by omega⟩) (fun r1 h => ?_)
  refine lv_iconst (v := (1 : Int32)) hx hb dX11_other_5 (by decide) ?_
  refine M_calli hw (MA.up hw.2.2.1.1) (va_runV (own := "LeastreaderModel") (As := [.int r1, .int (1 : Int32)]) (rest := []) ⟨hx, hb, hml, hown, ht⟩ (c_X11_isThrown μ H.size r1 (1 : Int32) h) (cwV 2 ht (G_V q_1352 q_1354 q_26 q_56 q_1355) rfl rfl rfl ⟨rfl, hd_92⟩ ⟨Nat.le_of_ble_eq_true rfl, Nat.le_of_ble_eq_true rfl⟩) ⟨MB.blind, M_recv hK hw, MB.pre hK hI hw va_P0 ne0⟩ rfl rfl hl.1 rfl (lv_room (Nat.le_of_ble_eq_true rfl)) dX11_other_6 ⟨show 0 + 0 ≤ 0 by omega, show 0 + 0 ≤ 0 by omega⟩) (fun r3 μ2 H locs h hw => ?_)
  refine lv_if_eq (tgt := 14) hx hb dX11_other_9 (by decide) (fun c4 => ?_) (fun c4 => ?_)
  · have h := h.1 c4
    refine lv_aload_n hx hb dX11_other_14 rfl (lv_at hl 0 rfl) ?_
    refine lv_iload_n hx hb dX11_other_15 rfl (lv_at hl 1 rfl) ?_
    refine M_calli hw (MA.up hw.2.2.1.1) (va_runV (own := "LeastreaderModel") (As := [.int a1]) (rest := []) ⟨hx, hb, hml, hown, ht⟩ (c_X11_isPlain μ2 H.size a1 h) (cwV 1 ht (G_V q_1429 q_1431 q_34 q_56 q_1432) rfl rfl rfl ⟨rfl, hd_100⟩ ⟨Nat.le_of_ble_eq_true rfl, Nat.le_of_ble_eq_true rfl⟩) ⟨MB.blind, M_recv hK hw, MB.pre hK hI hw va_P0 ne0⟩ rfl rfl hl.1 rfl (lv_room (Nat.le_of_ble_eq_true rfl)) dX11_other_16 ⟨show 0 + 0 ≤ 0 by omega, show 0 + 0 ≤ 0 by omega⟩) (fun r7 μ5 H locs h hw => ?_)
    obtain ⟨e6, h⟩ := h
    rw [e6] at hw
    refine lv_if_ne (tgt := 27) hx hb dX11_other_19 (by decide) (fun c8 => ?_) (fun c8 => ?_)
    · have h := h.1 c8
      refine lv_aload_n hx hb dX11_other_27 rfl (lv_at hl 0 rfl) ?_
      refine m_get (i := 2) hx hb ht hown hK hw (by decide) (ht _ q_1315) rfl rfl dX11_other_28 ?_
      refine lv_iload_n hx hb dX11_other_31 rfl (lv_at hl 1 rfl) ?_
      refine lv_dup2_11 hx hb dX11_other_32 rfl rfl ?_
      obtain ⟨z9, h⟩ := h
      refine m_iald hx hb hK hw (by decide) z9 dX11_other_33 ?_
      refine lv_iconst (v := (1 : Int32)) hx hb dX11_other_34 (by decide) ?_
      refine lv_aload_n hx hb dX11_other_35 rfl (lv_at hl 0 rfl) ?_
      refine m_get (i := 0) hx hb ht hown hK hw (by decide) (ht _ q_1313) rfl rfl dX11_other_36 ?_
      refine lv_iload_n hx hb dX11_other_39 rfl (lv_at hl 1 rfl) ?_
      obtain ⟨z10, h⟩ := h
      refine m_iald hx hb hK hw (by decide) z10 dX11_other_40 ?_
      refine lv_ishl hx hb dX11_other_41 ?_
      refine lv_iconst (v := (1 : Int32)) hx hb dX11_other_42 (by decide) ?_
      refine lv_isub hx hb dX11_other_43 ?_
      refine lv_ixor hx hb dX11_other_44 ?_
      obtain ⟨z11, h⟩ := h
      refine m_iast hx hb hK hw (by decide) z11 dX11_other_45 (fun H locs hw => ?_)
      refine lv_aload_n hx hb dX11_other_46 rfl (lv_at hl 0 rfl) ?_
      refine lv_aload_n hx hb dX11_other_47 rfl (lv_at hl 0 rfl) ?_
      refine m_get (i := 2) hx hb ht hown hK hw (by decide) (ht _ q_1315) rfl rfl dX11_other_48 ?_
      refine lv_iload_n hx hb dX11_other_51 rfl (lv_at hl 1 rfl) ?_
      obtain ⟨z12, h⟩ := h
      refine m_iald hx hb hK hw (by decide) z12 dX11_other_52 ?_
      refine P_calli (va_runS (own := "LeastreaderModel") (As := [.int ((tms μ2 3 a1.toNatClampNeg ((μ2 3 a1.toNatClampNeg) ^^^ (((1 : Int32) <<< ((μ2 1 a1.toNatClampNeg) &&& 31)) - (1 : Int32)))) 3 a1.toNatClampNeg)]) (rest := [.ref (ad 0)]) ⟨hx, hb, hml, hown, ht⟩ (c_J6_bitCount_0f7a4 ((tms μ2 3 a1.toNatClampNeg ((μ2 3 a1.toNatClampNeg) ^^^ (((1 : Int32) <<< ((μ2 1 a1.toNatClampNeg) &&& 31)) - (1 : Int32)))) 3 a1.toNatClampNeg) h) (va_cwS 1 ht (G_S q_1363 q_564 q_63 q_565) rfl rfl rfl hd_33 ⟨Nat.le_of_ble_eq_true rfl, Nat.le_of_ble_eq_true rfl⟩) ⟨PM_blind, PM_pre⟩ rfl rfl hl.1 rfl (lv_room (Nat.le_of_ble_eq_true rfl)) dX11_other_53 ⟨show 0 + 0 ≤ 0 by omega, show 0 + 0 ≤ 0 by omega⟩) (fun r13 h => ?_)
      refine M_calli hw (MA.up hw.2.2.1.1) (va_runV (own := "LeastreaderModel") (As := [.int r13]) (rest := []) ⟨hx, hb, hml, hown, ht⟩ (c_X11_did (tms μ2 3 a1.toNatClampNeg ((μ2 3 a1.toNatClampNeg) ^^^ (((1 : Int32) <<< ((μ2 1 a1.toNatClampNeg) &&& 31)) - (1 : Int32)))) H.size r13 h) (cwV 1 ht (G_V q_1368 q_1370 q_29 q_56 q_1371) rfl rfl rfl ⟨rfl, hd_95⟩ ⟨Nat.le_of_ble_eq_true rfl, Nat.le_of_ble_eq_true rfl⟩) ⟨MB.blind, M_recv hK hw, MB.pre hK hI hw va_P0 ne0⟩ rfl rfl hl.1 rfl (lv_room (Nat.le_of_ble_eq_true rfl)) dX11_other_56 ⟨show 0 + 0 ≤ 0 by omega, show 0 + 0 ≤ 0 by omega⟩) (fun r15 μ14 H locs h hw => ?_)
      exact hret H locs ls 59 _ _ _ _ _ hw h rfl (show 0 ≤ 0 by omega) (show 0 ≤ 0 by omega) dX11_other_59
    have h := h.2 c8
    refine lv_aload_n hx hb dX11_other_22 rfl (lv_at hl 0 rfl) ?_
    refine M_calli hw (MA.up hw.2.2.1.1) (va_runV (own := "LeastreaderModel") (As := []) (rest := []) ⟨hx, hb, hml, hown, ht⟩ (c_X11_refuse μ2 H.size h) (cwV 0 ht (G_V q_1433 q_1435 q_35 q_56 q_1436) rfl rfl rfl ⟨rfl, hd_101⟩ ⟨Nat.le_of_ble_eq_true rfl, Nat.le_of_ble_eq_true rfl⟩) ⟨MB.blind, M_recv hK hw, MB.pre hK hI hw va_P0 ne0⟩ rfl rfl hl.1 rfl (lv_room (Nat.le_of_ble_eq_true rfl)) dX11_other_23 ⟨show 0 + 0 ≤ 0 by omega, show 0 + 0 ≤ 0 by omega⟩) (fun r17 μ16 H locs h hw => ?_)
    exact hret H locs ls 26 _ _ _ _ _ hw h rfl (show 0 ≤ 0 by omega) (show 0 ≤ 0 by omega) dX11_other_26
  have h := h.2 c4
  refine lv_iconst (v := (0 : Int32)) hx hb dX11_other_12 (by decide) ?_
  exact hret H locs ls 13 _ _ _ _ _ hw h rfl (show 0 ≤ 0 by omega) (show 0 ≤ 0 by omega) dX11_other_13
def wp_X11_grow (μ : TMem) (a1 : Int32) (Q : Int32 → TMem → Prop) : Prop :=
  wp_X11_isOne a1 (fun (r1 : Int32) => wp_X11_isThrown μ r1 (1 : Int32) (fun (r3 : Int32) (μ2 : TMem) => (r3 = 0 → (vp_in a1 (ml 1) ∧ ((¬ (μ2 1 a1.toNatClampNeg) = (7 : Int32) → (vp_in a1 (ml 1) ∧ (vp_in a1 (ml 1) ∧ (vp_in a1 (ml 1) ∧ (wp_X11_did (tms μ2 1 a1.toNatClampNeg ((μ2 1 a1.toNatClampNeg) + (1 : Int32))) (((tms μ2 1 a1.toNatClampNeg ((μ2 1 a1.toNatClampNeg) + (1 : Int32))) 1 a1.toNatClampNeg) - (1 : Int32)) (fun (r11 : Int32) (μ10 : TMem) => Q r11 μ10)))))) ∧ ((μ2 1 a1.toNatClampNeg) = (7 : Int32) → (wp_X11_refuse μ2 (fun (r13 : Int32) (μ12 : TMem) => Q r13 μ12)))))) ∧ (¬ r3 = 0 → (Q (0 : Int32) μ2))))
set_option maxHeartbeats 4000000 in
set_option maxRecDepth 100000 in
theorem c_X11_grow {l : Launch} {D : va_G} {ad : Nat → Nat} {cI cL : ClassId}  (μ : TMem) (sz : Nat) (a1 : Int32)  {Q : Int32 → TMem → Prop} (h : wp_X11_grow μ a1 Q) : MMi l yX11_grow (.code yX11_grow cX11_grow 2 (Option.some Jvm.ClassFile.FieldType.int)) 2 0 0 [.ref (ad 0), .int a1] D ad cI cL sz μ [] Q := by
  refine M_meti (by decide +kernel) (Nat.le_of_ble_eq_true rfl) ?_
  intro p e s m below meth c Z ls hx hb hml hown ht hK hP0 hI hne hw hret hl
  have hl : lv_has ls 2 [(0, .ref (ad 0)), (1, .int a1)] := hl
  suffices hh : ∀ (H : Heap) (locs : List Loc), MW D (MR ad cI μ) [] (MA ad s.heap.size) s H locs → W p l e (RA 2 0 0) s m #[.ref (ad 0), .int a1] below meth c H locs 0 0 Z (F0 m 0 ls []) from hh _ _ hw
  intro H locs hw
  change wp_X11_isOne a1 (fun (r1 : Int32) => wp_X11_isThrown μ r1 (1 : Int32) (fun (r3 : Int32) (μ2 : TMem) => (r3 = 0 → (vp_in a1 (ml 1) ∧ ((¬ (μ2 1 a1.toNatClampNeg) = (7 : Int32) → (vp_in a1 (ml 1) ∧ (vp_in a1 (ml 1) ∧ (vp_in a1 (ml 1) ∧ (wp_X11_did (tms μ2 1 a1.toNatClampNeg ((μ2 1 a1.toNatClampNeg) + (1 : Int32))) (((tms μ2 1 a1.toNatClampNeg ((μ2 1 a1.toNatClampNeg) + (1 : Int32))) 1 a1.toNatClampNeg) - (1 : Int32)) (fun (r11 : Int32) (μ10 : TMem) => Q r11 μ10)))))) ∧ ((μ2 1 a1.toNatClampNeg) = (7 : Int32) → (wp_X11_refuse μ2 (fun (r13 : Int32) (μ12 : TMem) => Q r13 μ12)))))) ∧ (¬ r3 = 0 → (Q (0 : Int32) μ2)))) at h
  refine lv_aload_n hx hb dX11_grow_0 rfl (lv_at hl 0 rfl) ?_
  refine lv_iload_n hx hb dX11_grow_1 rfl (lv_at hl 1 rfl) ?_
  refine P_calli (va_runS (own := "LeastreaderModel") (As := [.int a1]) (rest := [.ref (ad 0)]) ⟨hx, hb, hml, hown, ht⟩ (c_X11_isOne a1 h) (va_cwS 1 ht (G_S q_1346 q_1347 q_56 q_1348) rfl rfl rfl hd_91 ⟨Nat.le_of_ble_eq_true rfl, Nat.le_of_ble_eq_true rfl⟩) ⟨PM_blind, PM_pre⟩ rfl rfl hl.1 rfl (lv_room (Nat.le_of_ble_eq_true rfl)) dX11_grow_2 ⟨show 0 + 0 ≤ 0 by omega, show 0 + 0 ≤ 0 by omega⟩) (fun r1 h => ?_)
  refine lv_iconst (v := (1 : Int32)) hx hb dX11_grow_5 (by decide) ?_
  refine M_calli hw (MA.up hw.2.2.1.1) (va_runV (own := "LeastreaderModel") (As := [.int r1, .int (1 : Int32)]) (rest := []) ⟨hx, hb, hml, hown, ht⟩ (c_X11_isThrown μ H.size r1 (1 : Int32) h) (cwV 2 ht (G_V q_1352 q_1354 q_26 q_56 q_1355) rfl rfl rfl ⟨rfl, hd_92⟩ ⟨Nat.le_of_ble_eq_true rfl, Nat.le_of_ble_eq_true rfl⟩) ⟨MB.blind, M_recv hK hw, MB.pre hK hI hw va_P0 ne0⟩ rfl rfl hl.1 rfl (lv_room (Nat.le_of_ble_eq_true rfl)) dX11_grow_6 ⟨show 0 + 0 ≤ 0 by omega, show 0 + 0 ≤ 0 by omega⟩) (fun r3 μ2 H locs h hw => ?_)
  refine lv_if_eq (tgt := 14) hx hb dX11_grow_9 (by decide) (fun c4 => ?_) (fun c4 => ?_)
  · have h := h.1 c4
    refine lv_aload_n hx hb dX11_grow_14 rfl (lv_at hl 0 rfl) ?_
    refine m_get (i := 0) hx hb ht hown hK hw (by decide) (ht _ q_1313) rfl rfl dX11_grow_15 ?_
    refine lv_iload_n hx hb dX11_grow_18 rfl (lv_at hl 1 rfl) ?_
    obtain ⟨z5, h⟩ := h
    refine m_iald hx hb hK hw (by decide) z5 dX11_grow_19 ?_
    refine lv_bipush (v := (7 : Int32)) hx hb dX11_grow_20 (by decide) ?_
    refine lv_icmp_ne (tgt := 30) hx hb dX11_grow_22 (by decide) (fun c6 => ?_) (fun c6 => ?_)
    · have h := h.1 c6
      refine lv_aload_n hx hb dX11_grow_30 rfl (lv_at hl 0 rfl) ?_
      refine m_get (i := 0) hx hb ht hown hK hw (by decide) (ht _ q_1313) rfl rfl dX11_grow_31 ?_
      refine lv_iload_n hx hb dX11_grow_34 rfl (lv_at hl 1 rfl) ?_
      refine lv_dup2_11 hx hb dX11_grow_35 rfl rfl ?_
      obtain ⟨z7, h⟩ := h
      refine m_iald hx hb hK hw (by decide) z7 dX11_grow_36 ?_
      refine lv_iconst (v := (1 : Int32)) hx hb dX11_grow_37 (by decide) ?_
      refine lv_iadd hx hb dX11_grow_38 ?_
      obtain ⟨z8, h⟩ := h
      refine m_iast hx hb hK hw (by decide) z8 dX11_grow_39 (fun H locs hw => ?_)
      refine lv_aload_n hx hb dX11_grow_40 rfl (lv_at hl 0 rfl) ?_
      refine lv_aload_n hx hb dX11_grow_41 rfl (lv_at hl 0 rfl) ?_
      refine m_get (i := 0) hx hb ht hown hK hw (by decide) (ht _ q_1313) rfl rfl dX11_grow_42 ?_
      refine lv_iload_n hx hb dX11_grow_45 rfl (lv_at hl 1 rfl) ?_
      obtain ⟨z9, h⟩ := h
      refine m_iald hx hb hK hw (by decide) z9 dX11_grow_46 ?_
      refine lv_iconst (v := (1 : Int32)) hx hb dX11_grow_47 (by decide) ?_
      refine lv_isub hx hb dX11_grow_48 ?_
      refine M_calli hw (MA.up hw.2.2.1.1) (va_runV (own := "LeastreaderModel") (As := [.int (((tms μ2 1 a1.toNatClampNeg ((μ2 1 a1.toNatClampNeg) + (1 : Int32))) 1 a1.toNatClampNeg) - (1 : Int32))]) (rest := []) ⟨hx, hb, hml, hown, ht⟩ (c_X11_did (tms μ2 1 a1.toNatClampNeg ((μ2 1 a1.toNatClampNeg) + (1 : Int32))) H.size (((tms μ2 1 a1.toNatClampNeg ((μ2 1 a1.toNatClampNeg) + (1 : Int32))) 1 a1.toNatClampNeg) - (1 : Int32)) h) (cwV 1 ht (G_V q_1368 q_1370 q_29 q_56 q_1371) rfl rfl rfl ⟨rfl, hd_95⟩ ⟨Nat.le_of_ble_eq_true rfl, Nat.le_of_ble_eq_true rfl⟩) ⟨MB.blind, M_recv hK hw, MB.pre hK hI hw va_P0 ne0⟩ rfl rfl hl.1 rfl (lv_room (Nat.le_of_ble_eq_true rfl)) dX11_grow_49 ⟨show 0 + 0 ≤ 0 by omega, show 0 + 0 ≤ 0 by omega⟩) (fun r11 μ10 H locs h hw => ?_)
      exact hret H locs ls 52 _ _ _ _ _ hw h rfl (show 0 ≤ 0 by omega) (show 0 ≤ 0 by omega) dX11_grow_52
    have h := h.2 c6
    refine lv_aload_n hx hb dX11_grow_25 rfl (lv_at hl 0 rfl) ?_
    refine M_calli hw (MA.up hw.2.2.1.1) (va_runV (own := "LeastreaderModel") (As := []) (rest := []) ⟨hx, hb, hml, hown, ht⟩ (c_X11_refuse μ2 H.size h) (cwV 0 ht (G_V q_1433 q_1435 q_35 q_56 q_1436) rfl rfl rfl ⟨rfl, hd_101⟩ ⟨Nat.le_of_ble_eq_true rfl, Nat.le_of_ble_eq_true rfl⟩) ⟨MB.blind, M_recv hK hw, MB.pre hK hI hw va_P0 ne0⟩ rfl rfl hl.1 rfl (lv_room (Nat.le_of_ble_eq_true rfl)) dX11_grow_26 ⟨show 0 + 0 ≤ 0 by omega, show 0 + 0 ≤ 0 by omega⟩) (fun r13 μ12 H locs h hw => ?_)
    exact hret H locs ls 29 _ _ _ _ _ hw h rfl (show 0 ≤ 0 by omega) (show 0 ≤ 0 by omega) dX11_grow_29
  have h := h.2 c4
  refine lv_iconst (v := (0 : Int32)) hx hb dX11_grow_12 (by decide) ?_
  exact hret H locs ls 13 _ _ _ _ _ hw h rfl (show 0 ≤ 0 by omega) (show 0 ≤ 0 by omega) dX11_grow_13
def wp_X11_without (a0 : Int32) (a1 : Int32) (Q : Int32 → Prop) : Prop :=
  Q ((a0 &&& (((1 : Int32) <<< (a1 &&& 31)) - (1 : Int32))) ||| ((a0 >>> ((a1 + (1 : Int32)) &&& 31)) <<< (a1 &&& 31)))
set_option maxHeartbeats 4000000 in
set_option maxRecDepth 100000 in
theorem c_X11_without {l : Launch} (a0 : Int32) (a1 : Int32) {Q : Int32 → Prop} (h : wp_X11_without a0 a1 Q) : PMi l yX11_without (.code yX11_without cX11_without 2 (Option.some Jvm.ClassFile.FieldType.int)) 0 [.int a0, .int a1] Q := by
  refine P_meti (by decide +kernel) (Nat.le_of_ble_eq_true rfl) ?_
  intro p e s m below meth c Z ls hx hb hml hown ht hret hl
  have hl : lv_has ls 2 [(0, .int a0), (1, .int a1)] := hl
  change Q ((a0 &&& (((1 : Int32) <<< (a1 &&& 31)) - (1 : Int32))) ||| ((a0 >>> ((a1 + (1 : Int32)) &&& 31)) <<< (a1 &&& 31))) at h
  refine lv_iload_n hx hb dX11_without_0 rfl (lv_at hl 0 rfl) ?_
  refine lv_iconst (v := (1 : Int32)) hx hb dX11_without_1 (by decide) ?_
  refine lv_iload_n hx hb dX11_without_2 rfl (lv_at hl 1 rfl) ?_
  refine lv_ishl hx hb dX11_without_3 ?_
  refine lv_iconst (v := (1 : Int32)) hx hb dX11_without_4 (by decide) ?_
  refine lv_isub hx hb dX11_without_5 ?_
  refine lv_iand hx hb dX11_without_6 ?_
  refine lv_iload_n hx hb dX11_without_7 rfl (lv_at hl 0 rfl) ?_
  refine lv_iload_n hx hb dX11_without_8 rfl (lv_at hl 1 rfl) ?_
  refine lv_iconst (v := (1 : Int32)) hx hb dX11_without_9 (by decide) ?_
  refine lv_iadd hx hb dX11_without_10 ?_
  refine lv_ishr hx hb dX11_without_11 ?_
  refine lv_iload_n hx hb dX11_without_12 rfl (lv_at hl 1 rfl) ?_
  refine lv_ishl hx hb dX11_without_13 ?_
  refine lv_ior hx hb dX11_without_14 ?_
  exact hret ls 15 _ h rfl dX11_without_15
def wpl_X11_drop_60 (v15 : Int32) (v16 : Int32) (v17 : Int32) (K116 : TMem → Prop) : Nat → Int32 → TMem → Prop
  | 0, _, _ => False
  | n + 1, v14, μ18 =>
    wp_X11_key v16 (0 : Int32) (0 : Int32) (fun (r19 : Int32) => ((r19 + (21 : Int32)) ≤ v14 → (K116 μ18)) ∧ (¬ (r19 + (21 : Int32)) ≤ v14 → (wp_X11_key v16 (0 : Int32) (0 : Int32) (fun (r21 : Int32) => ((r21 + (21 : Int32)) ≤ (v14 + (3 : Int32)) → (vp_in v14 (ml 4) ∧ (wpl_X11_drop_60 v15 v16 v17 K116 n (v14 + (1 : Int32)) (tms μ18 4 v14.toNatClampNeg (0 : Int32))))) ∧ (¬ (r21 + (21 : Int32)) ≤ (v14 + (3 : Int32)) → (vp_in (v14 + (3 : Int32)) (ml 4) ∧ (vp_in v14 (ml 4) ∧ (wpl_X11_drop_60 v15 v16 v17 K116 n (v14 + (1 : Int32)) (tms μ18 4 v14.toNatClampNeg (μ18 4 (v14 + (3 : Int32)).toNatClampNeg))))))))))
def wpl_X11_drop_119 (v30 : Int32) (v31 : Int32) (v32 : Int32) (K164 : TMem → Prop) : Nat → Int32 → TMem → Prop
  | 0, _, _ => False
  | n + 1, v29, μ33 =>
    ((21 : Int32) ≤ v29 → (K164 μ33)) ∧ (¬ (21 : Int32) ≤ v29 → (wp_X11_key v31 (0 : Int32) (0 : Int32) (fun (r35 : Int32) => wp_X11_key v31 (0 : Int32) (0 : Int32) (fun (r36 : Int32) => vp_in (r36 + v29) (ml 4) ∧ (wp_X11_without (μ33 4 (r36 + v29).toNatClampNeg) v32 (fun (r38 : Int32) => vp_in (r35 + v29) (ml 4) ∧ (wpl_X11_drop_119 v30 v31 v32 K164 n (v29 + (1 : Int32)) (tms μ33 4 (r35 + v29).toNatClampNeg r38))))))))
def wp_X11_drop (μ : TMem) (a1 : Int32) (a2 : Int32) (Q : Int32 → TMem → Prop) : Prop :=
  wp_X11_isOne a1 (fun (r1 : Int32) => ∀ J2 : Int32 → Prop, (∀ (j3 : Int32), (wp_X11_isThrown μ j3 (1 : Int32) (fun (r5 : Int32) (μ4 : TMem) => (r5 = 0 → (vp_in a1 (ml 1) ∧ ((¬ (μ4 1 a1.toNatClampNeg) = (1 : Int32) → (wp_X11_arrowsOf μ4 a1 (fun (r11 : Int32) => wp_X11_key a1 a2 (0 : Int32) (fun (r12 : Int32) => ∃ n12x, wpl_X11_drop_60 r11 a1 a2 (fun (μ27 : TMem) => ∃ n27x, wpl_X11_drop_119 r11 a1 a2 (fun (μ41 : TMem) => vp_in a1 (ml 2) ∧ (wp_X11_without (μ41 2 a1.toNatClampNeg) a2 (fun (r43 : Int32) => vp_in a1 (ml 2) ∧ (vp_in a1 (ml 3) ∧ (wp_X11_without ((tms μ41 2 a1.toNatClampNeg r43) 3 a1.toNatClampNeg) a2 (fun (r46 : Int32) => vp_in a1 (ml 3) ∧ (vp_in a1 (ml 1) ∧ (vp_in a1 (ml 1) ∧ (wp_X11_arrowsOf (tms (tms (tms μ41 2 a1.toNatClampNeg r43) 3 a1.toNatClampNeg r46) 1 a1.toNatClampNeg (((tms (tms μ41 2 a1.toNatClampNeg r43) 3 a1.toNatClampNeg r46) 1 a1.toNatClampNeg) - (1 : Int32))) a1 (fun (r52 : Int32) => wp_X11_did (tms (tms (tms μ41 2 a1.toNatClampNeg r43) 3 a1.toNatClampNeg r46) 1 a1.toNatClampNeg (((tms (tms μ41 2 a1.toNatClampNeg r43) 3 a1.toNatClampNeg r46) 1 a1.toNatClampNeg) - (1 : Int32))) (r11 - r52) (fun (r54 : Int32) (μ53 : TMem) => Q r54 μ53))))))))))) n27x (0 : Int32) μ27) n12x r12 μ4)))) ∧ ((μ4 1 a1.toNatClampNeg) = (1 : Int32) → (wp_X11_refuse μ4 (fun (r56 : Int32) (μ55 : TMem) => Q r56 μ55)))))) ∧ (¬ r5 = 0 → (Q (0 : Int32) μ4)))) → J2 j3) → ((r1 = 0 → (J2 (0 : Int32))) ∧ (¬ r1 = 0 → (wp_X11_isState μ a1 a2 (fun (r60 : Int32) => (r60 = 0 → (J2 (0 : Int32))) ∧ (¬ r60 = 0 → (J2 (1 : Int32))))))))
set_option maxHeartbeats 4000000 in
set_option maxRecDepth 100000 in
theorem c_X11_drop {l : Launch} {D : va_G} {ad : Nat → Nat} {cI cL : ClassId}  (μ : TMem) (sz : Nat) (a1 : Int32) (a2 : Int32)  {Q : Int32 → TMem → Prop} (h : wp_X11_drop μ a1 a2 Q) : MMi l yX11_drop (.code yX11_drop cX11_drop 5 (Option.some Jvm.ClassFile.FieldType.int)) 2 0 0 [.ref (ad 0), .int a1, .int a2] D ad cI cL sz μ [] Q := by
  refine M_meti (by decide +kernel) (Nat.le_of_ble_eq_true rfl) ?_
  intro p e s m below meth c Z ls hx hb hml hown ht hK hP0 hI hne hw hret hl
  have hl : lv_has ls 5 [(0, .ref (ad 0)), (1, .int a1), (2, .int a2)] := hl
  suffices hh : ∀ (H : Heap) (locs : List Loc), MW D (MR ad cI μ) [] (MA ad s.heap.size) s H locs → W p l e (RA 2 0 0) s m #[.ref (ad 0), .int a1, .int a2] below meth c H locs 0 0 Z (F0 m 0 ls []) from hh _ _ hw
  intro H locs hw
  change wp_X11_isOne a1 (fun (r1 : Int32) => ∀ J2 : Int32 → Prop, (∀ (j3 : Int32), (wp_X11_isThrown μ j3 (1 : Int32) (fun (r5 : Int32) (μ4 : TMem) => (r5 = 0 → (vp_in a1 (ml 1) ∧ ((¬ (μ4 1 a1.toNatClampNeg) = (1 : Int32) → (wp_X11_arrowsOf μ4 a1 (fun (r11 : Int32) => wp_X11_key a1 a2 (0 : Int32) (fun (r12 : Int32) => ∃ n12x, wpl_X11_drop_60 r11 a1 a2 (fun (μ27 : TMem) => ∃ n27x, wpl_X11_drop_119 r11 a1 a2 (fun (μ41 : TMem) => vp_in a1 (ml 2) ∧ (wp_X11_without (μ41 2 a1.toNatClampNeg) a2 (fun (r43 : Int32) => vp_in a1 (ml 2) ∧ (vp_in a1 (ml 3) ∧ (wp_X11_without ((tms μ41 2 a1.toNatClampNeg r43) 3 a1.toNatClampNeg) a2 (fun (r46 : Int32) => vp_in a1 (ml 3) ∧ (vp_in a1 (ml 1) ∧ (vp_in a1 (ml 1) ∧ (wp_X11_arrowsOf (tms (tms (tms μ41 2 a1.toNatClampNeg r43) 3 a1.toNatClampNeg r46) 1 a1.toNatClampNeg (((tms (tms μ41 2 a1.toNatClampNeg r43) 3 a1.toNatClampNeg r46) 1 a1.toNatClampNeg) - (1 : Int32))) a1 (fun (r52 : Int32) => wp_X11_did (tms (tms (tms μ41 2 a1.toNatClampNeg r43) 3 a1.toNatClampNeg r46) 1 a1.toNatClampNeg (((tms (tms μ41 2 a1.toNatClampNeg r43) 3 a1.toNatClampNeg r46) 1 a1.toNatClampNeg) - (1 : Int32))) (r11 - r52) (fun (r54 : Int32) (μ53 : TMem) => Q r54 μ53))))))))))) n27x (0 : Int32) μ27) n12x r12 μ4)))) ∧ ((μ4 1 a1.toNatClampNeg) = (1 : Int32) → (wp_X11_refuse μ4 (fun (r56 : Int32) (μ55 : TMem) => Q r56 μ55)))))) ∧ (¬ r5 = 0 → (Q (0 : Int32) μ4)))) → J2 j3) → ((r1 = 0 → (J2 (0 : Int32))) ∧ (¬ r1 = 0 → (wp_X11_isState μ a1 a2 (fun (r60 : Int32) => (r60 = 0 → (J2 (0 : Int32))) ∧ (¬ r60 = 0 → (J2 (1 : Int32)))))))) at h
  refine lv_aload_n hx hb dX11_drop_0 rfl (lv_at hl 0 rfl) ?_
  refine lv_iload_n hx hb dX11_drop_1 rfl (lv_at hl 1 rfl) ?_
  refine P_calli (va_runS (own := "LeastreaderModel") (As := [.int a1]) (rest := [.ref (ad 0)]) ⟨hx, hb, hml, hown, ht⟩ (c_X11_isOne a1 h) (va_cwS 1 ht (G_S q_1346 q_1347 q_56 q_1348) rfl rfl rfl hd_91 ⟨Nat.le_of_ble_eq_true rfl, Nat.le_of_ble_eq_true rfl⟩) ⟨PM_blind, PM_pre⟩ rfl rfl hl.1 rfl (lv_room (Nat.le_of_ble_eq_true rfl)) dX11_drop_2 ⟨show 0 + 0 ≤ 0 by omega, show 0 + 0 ≤ 0 by omega⟩) (fun r1 h => ?_)
  have h := h (fun (j3 : Int32) => ∀ (H : Heap) (locs : List Loc) (ls : Array Slot), MW D (MR ad cI μ) [] (MA ad s.heap.size) s H locs → lv_has ls 5 [(0, .ref (ad 0)), (1, .int a1), (2, .int a2)] → W p l e (RA 2 0 0) s m #[.ref (ad 0), .int a1, .int a2] below meth c H locs 0 0 Z (F0 m 22 ls [.int j3, .ref (ad 0)])) (fun j3 h H locs ls hw hl => by
    refine lv_iconst (v := (1 : Int32)) hx hb dX11_drop_22 (by decide) ?_
    refine M_calli hw (MA.up hw.2.2.1.1) (va_runV (own := "LeastreaderModel") (As := [.int j3, .int (1 : Int32)]) (rest := []) ⟨hx, hb, hml, hown, ht⟩ (c_X11_isThrown μ H.size j3 (1 : Int32) h) (cwV 2 ht (G_V q_1352 q_1354 q_26 q_56 q_1355) rfl rfl rfl ⟨rfl, hd_92⟩ ⟨Nat.le_of_ble_eq_true rfl, Nat.le_of_ble_eq_true rfl⟩) ⟨MB.blind, M_recv hK hw, MB.pre hK hI hw va_P0 ne0⟩ rfl rfl hl.1 rfl (lv_room (Nat.le_of_ble_eq_true rfl)) dX11_drop_23 ⟨show 0 + 0 ≤ 0 by omega, show 0 + 0 ≤ 0 by omega⟩) (fun r5 μ4 H locs h hw => ?_)
    refine lv_if_eq (tgt := 31) hx hb dX11_drop_26 (by decide) (fun c6 => ?_) (fun c6 => ?_)
    · have h := h.1 c6
      refine lv_aload_n hx hb dX11_drop_31 rfl (lv_at hl 0 rfl) ?_
      refine m_get (i := 0) hx hb ht hown hK hw (by decide) (ht _ q_1313) rfl rfl dX11_drop_32 ?_
      refine lv_iload_n hx hb dX11_drop_35 rfl (lv_at hl 1 rfl) ?_
      obtain ⟨z7, h⟩ := h
      refine m_iald hx hb hK hw (by decide) z7 dX11_drop_36 ?_
      refine lv_iconst (v := (1 : Int32)) hx hb dX11_drop_37 (by decide) ?_
      refine lv_icmp_ne (tgt := 46) hx hb dX11_drop_38 (by decide) (fun c8 => ?_) (fun c8 => ?_)
      · have h := h.1 c8
        refine lv_aload_n hx hb dX11_drop_46 rfl (lv_at hl 0 rfl) ?_
        refine lv_iload_n hx hb dX11_drop_47 rfl (lv_at hl 1 rfl) ?_
        refine M_calli hw (MA.up hw.2.2.1.1) (va_runV (own := "LeastreaderModel") (As := [.int a1]) (rest := []) ⟨hx, hb, hml, hown, ht⟩ (c_X11_arrowsOf μ4 H.size a1 h) (cwV 1 ht (G_V q_1356 q_1358 q_27 q_56 q_1359) rfl rfl rfl ⟨rfl, hd_93⟩ ⟨Nat.le_of_ble_eq_true rfl, Nat.le_of_ble_eq_true rfl⟩) ⟨MB.blind, M_recv hK hw, MB.pre hK hI hw va_P0 ne0⟩ rfl rfl hl.1 rfl (lv_room (Nat.le_of_ble_eq_true rfl)) dX11_drop_48 ⟨show 0 + 0 ≤ 0 by omega, show 0 + 0 ≤ 0 by omega⟩) (fun r11 μ9 H locs h hw => ?_)
        obtain ⟨e10, h⟩ := h
        rw [e10] at hw
        refine lv_istore_n (lv' := [(3, .int r11), (0, .ref (ad 0)), (1, .int a1), (2, .int a2)]) hx hb dX11_drop_51 rfl hl (by decide) rfl (fun ls hl => ?_)
        refine lv_iload_n hx hb dX11_drop_52 rfl (lv_at hl 2 rfl) ?_
        refine lv_iload_n hx hb dX11_drop_53 rfl (lv_at hl 3 rfl) ?_
        refine lv_iconst (v := (0 : Int32)) hx hb dX11_drop_54 (by decide) ?_
        refine P_calli (va_runS (own := "LeastreaderModel") (As := [.int a1, .int a2, .int (0 : Int32)]) (rest := []) ⟨hx, hb, hml, hown, ht⟩ (c_X11_key a1 a2 (0 : Int32) h) (va_cwS 3 ht (G_S q_1360 q_1361 q_56 q_1362) rfl rfl rfl hd_79 ⟨Nat.le_of_ble_eq_true rfl, Nat.le_of_ble_eq_true rfl⟩) ⟨PM_blind, PM_pre⟩ rfl rfl hl.1 rfl (lv_room (Nat.le_of_ble_eq_true rfl)) dX11_drop_55 ⟨show 0 + 0 ≤ 0 by omega, show 0 + 0 ≤ 0 by omega⟩) (fun r12 h => ?_)
        refine lv_istore (lv' := [(4, .int r12), (3, .int r11), (0, .ref (ad 0)), (1, .int a1), (2, .int a2)]) hx hb dX11_drop_58 hl (by decide) rfl (fun ls hl => ?_)
        obtain ⟨n26, h⟩ := h
        have L12 : ∀ (v15 : Int32) (v16 : Int32) (v17 : Int32) (K116 : TMem → Prop), (∀ (μ18 : TMem), ∀ (H : Heap) (locs : List Loc) (ls : Array Slot), MW D (MR ad cI μ18) [] (MA ad s.heap.size) s H locs → lv_has ls 5 [(3, .int v15), (0, .ref (ad 0)), (1, .int v16), (2, .int v17)] → K116 μ18 → W p l e (RA 2 0 0) s m #[.ref (ad 0), .int a1, .int a2] below meth c H locs 0 0 Z (F0 m 116 ls [])) → ∀ (n : Nat), ∀ (v14 : Int32) (μ18 : TMem), ∀ (H : Heap) (locs : List Loc) (ls : Array Slot), MW D (MR ad cI μ18) [] (MA ad s.heap.size) s H locs → lv_has ls 5 [(4, .int v14), (3, .int v15), (0, .ref (ad 0)), (1, .int v16), (2, .int v17)] → wpl_X11_drop_60 v15 v16 v17 K116 n v14 μ18 → W p l e (RA 2 0 0) s m #[.ref (ad 0), .int a1, .int a2] below meth c H locs 0 0 Z (F0 m 60 ls []) := by
          intro v15 v16 v17 K116 hK116
          intro n
          induction n with
          | zero => intro v14 μ18 H locs ls hw hl h; exact False.elim h
          | succ n ih12 =>
            intro v14 μ18 H locs ls hw hl h
            change wp_X11_key v16 (0 : Int32) (0 : Int32) (fun (r19 : Int32) => ((r19 + (21 : Int32)) ≤ v14 → (K116 μ18)) ∧ (¬ (r19 + (21 : Int32)) ≤ v14 → (wp_X11_key v16 (0 : Int32) (0 : Int32) (fun (r21 : Int32) => ((r21 + (21 : Int32)) ≤ (v14 + (3 : Int32)) → (vp_in v14 (ml 4) ∧ (wpl_X11_drop_60 v15 v16 v17 K116 n (v14 + (1 : Int32)) (tms μ18 4 v14.toNatClampNeg (0 : Int32))))) ∧ (¬ (r21 + (21 : Int32)) ≤ (v14 + (3 : Int32)) → (vp_in (v14 + (3 : Int32)) (ml 4) ∧ (vp_in v14 (ml 4) ∧ (wpl_X11_drop_60 v15 v16 v17 K116 n (v14 + (1 : Int32)) (tms μ18 4 v14.toNatClampNeg (μ18 4 (v14 + (3 : Int32)).toNatClampNeg)))))))))) at h
            refine lv_iload hx hb dX11_drop_60 (lv_at hl 0 rfl) ?_
            refine lv_iload_n hx hb dX11_drop_62 rfl (lv_at hl 3 rfl) ?_
            refine lv_iconst (v := (0 : Int32)) hx hb dX11_drop_63 (by decide) ?_
            refine lv_iconst (v := (0 : Int32)) hx hb dX11_drop_64 (by decide) ?_
            refine P_calli (va_runS (own := "LeastreaderModel") (As := [.int v16, .int (0 : Int32), .int (0 : Int32)]) (rest := [.int v14]) ⟨hx, hb, hml, hown, ht⟩ (c_X11_key v16 (0 : Int32) (0 : Int32) h) (va_cwS 3 ht (G_S q_1360 q_1361 q_56 q_1362) rfl rfl rfl hd_79 ⟨Nat.le_of_ble_eq_true rfl, Nat.le_of_ble_eq_true rfl⟩) ⟨PM_blind, PM_pre⟩ rfl rfl hl.1 rfl (lv_room (Nat.le_of_ble_eq_true rfl)) dX11_drop_65 ⟨show 0 + 0 ≤ 0 by omega, show 0 + 0 ≤ 0 by omega⟩) (fun r19 h => ?_)
            refine lv_bipush (v := (21 : Int32)) hx hb dX11_drop_68 (by decide) ?_
            refine lv_iadd hx hb dX11_drop_70 ?_
            refine lv_icmp_ge (tgt := 116) hx hb dX11_drop_71 (by decide) (fun c20 => ?_) (fun c20 => ?_)
            · have h := h.1 c20
              exact hK116 μ18 H locs ls hw (lv_sub hl [1, 2, 3, 4] rfl) h
            have h := h.2 c20
            refine lv_aload_n hx hb dX11_drop_74 rfl (lv_at hl 2 rfl) ?_
            refine m_get (i := 3) hx hb ht hown hK hw (by decide) (ht _ q_1316) rfl rfl dX11_drop_75 ?_
            refine lv_iload hx hb dX11_drop_78 (lv_at hl 0 rfl) ?_
            refine lv_iload hx hb dX11_drop_80 (lv_at hl 0 rfl) ?_
            refine lv_iconst (v := (3 : Int32)) hx hb dX11_drop_82 (by decide) ?_
            refine lv_iadd hx hb dX11_drop_83 ?_
            refine lv_iload_n hx hb dX11_drop_84 rfl (lv_at hl 3 rfl) ?_
            refine lv_iconst (v := (0 : Int32)) hx hb dX11_drop_85 (by decide) ?_
            refine lv_iconst (v := (0 : Int32)) hx hb dX11_drop_86 (by decide) ?_
            refine P_calli (va_runS (own := "LeastreaderModel") (As := [.int v16, .int (0 : Int32), .int (0 : Int32)]) (rest := [.int (v14 + (3 : Int32)), .int v14, .ref (ad 4)]) ⟨hx, hb, hml, hown, ht⟩ (c_X11_key v16 (0 : Int32) (0 : Int32) h) (va_cwS 3 ht (G_S q_1360 q_1361 q_56 q_1362) rfl rfl rfl hd_79 ⟨Nat.le_of_ble_eq_true rfl, Nat.le_of_ble_eq_true rfl⟩) ⟨PM_blind, PM_pre⟩ rfl rfl hl.1 rfl (lv_room (Nat.le_of_ble_eq_true rfl)) dX11_drop_87 ⟨show 0 + 0 ≤ 0 by omega, show 0 + 0 ≤ 0 by omega⟩) (fun r21 h => ?_)
            refine lv_bipush (v := (21 : Int32)) hx hb dX11_drop_90 (by decide) ?_
            refine lv_iadd hx hb dX11_drop_92 ?_
            refine lv_icmp_ge (tgt := 108) hx hb dX11_drop_93 (by decide) (fun c22 => ?_) (fun c22 => ?_)
            · have h := h.1 c22
              refine lv_iconst (v := (0 : Int32)) hx hb dX11_drop_108 (by decide) ?_
              obtain ⟨z23, h⟩ := h
              refine m_iast hx hb hK hw (by decide) z23 dX11_drop_109 (fun H locs hw => ?_)
              refine lv_iinc (v := (v14 + (1 : Int32))) (lv' := [(4, .int (v14 + (1 : Int32))), (3, .int v15), (0, .ref (ad 0)), (1, .int v16), (2, .int v17)]) hx hb dX11_drop_110 hl (k := 0) rfl rfl (by decide) rfl (fun ls hl => ?_)
              refine lv_goto (tgt := 60) hx hb dX11_drop_113 (by decide) ?_
              exact ih12 (v14 + (1 : Int32)) (tms μ18 4 v14.toNatClampNeg (0 : Int32)) H locs ls hw (lv_sub hl [0, 1, 2, 3, 4] rfl) h
            have h := h.2 c22
            refine lv_aload_n hx hb dX11_drop_96 rfl (lv_at hl 2 rfl) ?_
            refine m_get (i := 3) hx hb ht hown hK hw (by decide) (ht _ q_1316) rfl rfl dX11_drop_97 ?_
            refine lv_iload hx hb dX11_drop_100 (lv_at hl 0 rfl) ?_
            refine lv_iconst (v := (3 : Int32)) hx hb dX11_drop_102 (by decide) ?_
            refine lv_iadd hx hb dX11_drop_103 ?_
            obtain ⟨z24, h⟩ := h
            refine m_iald hx hb hK hw (by decide) z24 dX11_drop_104 ?_
            refine lv_goto (tgt := 109) hx hb dX11_drop_105 (by decide) ?_
            obtain ⟨z25, h⟩ := h
            refine m_iast hx hb hK hw (by decide) z25 dX11_drop_109 (fun H locs hw => ?_)
            refine lv_iinc (v := (v14 + (1 : Int32))) (lv' := [(4, .int (v14 + (1 : Int32))), (3, .int v15), (0, .ref (ad 0)), (1, .int v16), (2, .int v17)]) hx hb dX11_drop_110 hl (k := 0) rfl rfl (by decide) rfl (fun ls hl => ?_)
            refine lv_goto (tgt := 60) hx hb dX11_drop_113 (by decide) ?_
            exact ih12 (v14 + (1 : Int32)) (tms μ18 4 v14.toNatClampNeg (μ18 4 (v14 + (3 : Int32)).toNatClampNeg)) H locs ls hw (lv_sub hl [0, 1, 2, 3, 4] rfl) h
        refine L12 r11 a1 a2 _ ?_ n26 r12 μ4 H locs ls hw (lv_sub hl [0, 1, 2, 3, 4] rfl) h
        intro μ27 H locs ls hw hl h
        refine lv_iconst (v := (0 : Int32)) hx hb dX11_drop_116 (by decide) ?_
        refine lv_istore (lv' := [(4, .int (0 : Int32)), (3, .int r11), (0, .ref (ad 0)), (1, .int a1), (2, .int a2)]) hx hb dX11_drop_117 hl (by decide) rfl (fun ls hl => ?_)
        obtain ⟨n40, h⟩ := h
        have L27 : ∀ (v30 : Int32) (v31 : Int32) (v32 : Int32) (K164 : TMem → Prop), (∀ (μ33 : TMem), ∀ (H : Heap) (locs : List Loc) (ls : Array Slot), MW D (MR ad cI μ33) [] (MA ad s.heap.size) s H locs → lv_has ls 5 [(3, .int v30), (0, .ref (ad 0)), (1, .int v31), (2, .int v32)] → K164 μ33 → W p l e (RA 2 0 0) s m #[.ref (ad 0), .int a1, .int a2] below meth c H locs 0 0 Z (F0 m 164 ls [])) → ∀ (n : Nat), ∀ (v29 : Int32) (μ33 : TMem), ∀ (H : Heap) (locs : List Loc) (ls : Array Slot), MW D (MR ad cI μ33) [] (MA ad s.heap.size) s H locs → lv_has ls 5 [(4, .int v29), (3, .int v30), (0, .ref (ad 0)), (1, .int v31), (2, .int v32)] → wpl_X11_drop_119 v30 v31 v32 K164 n v29 μ33 → W p l e (RA 2 0 0) s m #[.ref (ad 0), .int a1, .int a2] below meth c H locs 0 0 Z (F0 m 119 ls []) := by
          intro v30 v31 v32 K164 hK164
          intro n
          induction n with
          | zero => intro v29 μ33 H locs ls hw hl h; exact False.elim h
          | succ n ih27 =>
            intro v29 μ33 H locs ls hw hl h
            change ((21 : Int32) ≤ v29 → (K164 μ33)) ∧ (¬ (21 : Int32) ≤ v29 → (wp_X11_key v31 (0 : Int32) (0 : Int32) (fun (r35 : Int32) => wp_X11_key v31 (0 : Int32) (0 : Int32) (fun (r36 : Int32) => vp_in (r36 + v29) (ml 4) ∧ (wp_X11_without (μ33 4 (r36 + v29).toNatClampNeg) v32 (fun (r38 : Int32) => vp_in (r35 + v29) (ml 4) ∧ (wpl_X11_drop_119 v30 v31 v32 K164 n (v29 + (1 : Int32)) (tms μ33 4 (r35 + v29).toNatClampNeg r38)))))))) at h
            refine lv_iload hx hb dX11_drop_119 (lv_at hl 0 rfl) ?_
            refine lv_bipush (v := (21 : Int32)) hx hb dX11_drop_121 (by decide) ?_
            refine lv_icmp_ge (tgt := 164) hx hb dX11_drop_123 (by decide) (fun c34 => ?_) (fun c34 => ?_)
            · have h := h.1 c34
              exact hK164 μ33 H locs ls hw (lv_sub hl [1, 2, 3, 4] rfl) h
            have h := h.2 c34
            refine lv_aload_n hx hb dX11_drop_126 rfl (lv_at hl 2 rfl) ?_
            refine m_get (i := 3) hx hb ht hown hK hw (by decide) (ht _ q_1316) rfl rfl dX11_drop_127 ?_
            refine lv_iload_n hx hb dX11_drop_130 rfl (lv_at hl 3 rfl) ?_
            refine lv_iconst (v := (0 : Int32)) hx hb dX11_drop_131 (by decide) ?_
            refine lv_iconst (v := (0 : Int32)) hx hb dX11_drop_132 (by decide) ?_
            refine P_calli (va_runS (own := "LeastreaderModel") (As := [.int v31, .int (0 : Int32), .int (0 : Int32)]) (rest := [.ref (ad 4)]) ⟨hx, hb, hml, hown, ht⟩ (c_X11_key v31 (0 : Int32) (0 : Int32) h) (va_cwS 3 ht (G_S q_1360 q_1361 q_56 q_1362) rfl rfl rfl hd_79 ⟨Nat.le_of_ble_eq_true rfl, Nat.le_of_ble_eq_true rfl⟩) ⟨PM_blind, PM_pre⟩ rfl rfl hl.1 rfl (lv_room (Nat.le_of_ble_eq_true rfl)) dX11_drop_133 ⟨show 0 + 0 ≤ 0 by omega, show 0 + 0 ≤ 0 by omega⟩) (fun r35 h => ?_)
            refine lv_iload hx hb dX11_drop_136 (lv_at hl 0 rfl) ?_
            refine lv_iadd hx hb dX11_drop_138 ?_
            refine lv_aload_n hx hb dX11_drop_139 rfl (lv_at hl 2 rfl) ?_
            refine m_get (i := 3) hx hb ht hown hK hw (by decide) (ht _ q_1316) rfl rfl dX11_drop_140 ?_
            refine lv_iload_n hx hb dX11_drop_143 rfl (lv_at hl 3 rfl) ?_
            refine lv_iconst (v := (0 : Int32)) hx hb dX11_drop_144 (by decide) ?_
            refine lv_iconst (v := (0 : Int32)) hx hb dX11_drop_145 (by decide) ?_
            refine P_calli (va_runS (own := "LeastreaderModel") (As := [.int v31, .int (0 : Int32), .int (0 : Int32)]) (rest := [.ref (ad 4), .int (r35 + v29), .ref (ad 4)]) ⟨hx, hb, hml, hown, ht⟩ (c_X11_key v31 (0 : Int32) (0 : Int32) h) (va_cwS 3 ht (G_S q_1360 q_1361 q_56 q_1362) rfl rfl rfl hd_79 ⟨Nat.le_of_ble_eq_true rfl, Nat.le_of_ble_eq_true rfl⟩) ⟨PM_blind, PM_pre⟩ rfl rfl hl.1 rfl (lv_room (Nat.le_of_ble_eq_true rfl)) dX11_drop_146 ⟨show 0 + 0 ≤ 0 by omega, show 0 + 0 ≤ 0 by omega⟩) (fun r36 h => ?_)
            refine lv_iload hx hb dX11_drop_149 (lv_at hl 0 rfl) ?_
            refine lv_iadd hx hb dX11_drop_151 ?_
            obtain ⟨z37, h⟩ := h
            refine m_iald hx hb hK hw (by decide) z37 dX11_drop_152 ?_
            refine lv_iload_n hx hb dX11_drop_153 rfl (lv_at hl 4 rfl) ?_
            refine P_calli (va_runS (own := "LeastreaderModel") (As := [.int (μ33 4 (r36 + v29).toNatClampNeg), .int v32]) (rest := [.int (r35 + v29), .ref (ad 4)]) ⟨hx, hb, hml, hown, ht⟩ (c_X11_without (μ33 4 (r36 + v29).toNatClampNeg) v32 h) (va_cwS 2 ht (G_S q_1445 q_1446 q_56 q_1447) rfl rfl rfl hd_102 ⟨Nat.le_of_ble_eq_true rfl, Nat.le_of_ble_eq_true rfl⟩) ⟨PM_blind, PM_pre⟩ rfl rfl hl.1 rfl (lv_room (Nat.le_of_ble_eq_true rfl)) dX11_drop_154 ⟨show 0 + 0 ≤ 0 by omega, show 0 + 0 ≤ 0 by omega⟩) (fun r38 h => ?_)
            obtain ⟨z39, h⟩ := h
            refine m_iast hx hb hK hw (by decide) z39 dX11_drop_157 (fun H locs hw => ?_)
            refine lv_iinc (v := (v29 + (1 : Int32))) (lv' := [(4, .int (v29 + (1 : Int32))), (3, .int v30), (0, .ref (ad 0)), (1, .int v31), (2, .int v32)]) hx hb dX11_drop_158 hl (k := 0) rfl rfl (by decide) rfl (fun ls hl => ?_)
            refine lv_goto (tgt := 119) hx hb dX11_drop_161 (by decide) ?_
            exact ih27 (v29 + (1 : Int32)) (tms μ33 4 (r35 + v29).toNatClampNeg r38) H locs ls hw (lv_sub hl [0, 1, 2, 3, 4] rfl) h
        refine L27 r11 a1 a2 _ ?_ n40 (0 : Int32) μ27 H locs ls hw (lv_sub hl [0, 1, 2, 3, 4] rfl) h
        intro μ41 H locs ls hw hl h
        refine lv_aload_n hx hb dX11_drop_164 rfl (lv_at hl 1 rfl) ?_
        refine m_get (i := 1) hx hb ht hown hK hw (by decide) (ht _ q_1314) rfl rfl dX11_drop_165 ?_
        refine lv_iload_n hx hb dX11_drop_168 rfl (lv_at hl 2 rfl) ?_
        refine lv_aload_n hx hb dX11_drop_169 rfl (lv_at hl 1 rfl) ?_
        refine m_get (i := 1) hx hb ht hown hK hw (by decide) (ht _ q_1314) rfl rfl dX11_drop_170 ?_
        refine lv_iload_n hx hb dX11_drop_173 rfl (lv_at hl 2 rfl) ?_
        obtain ⟨z42, h⟩ := h
        refine m_iald hx hb hK hw (by decide) z42 dX11_drop_174 ?_
        refine lv_iload_n hx hb dX11_drop_175 rfl (lv_at hl 3 rfl) ?_
        refine P_calli (va_runS (own := "LeastreaderModel") (As := [.int (μ41 2 a1.toNatClampNeg), .int a2]) (rest := [.int a1, .ref (ad 2)]) ⟨hx, hb, hml, hown, ht⟩ (c_X11_without (μ41 2 a1.toNatClampNeg) a2 h) (va_cwS 2 ht (G_S q_1445 q_1446 q_56 q_1447) rfl rfl rfl hd_102 ⟨Nat.le_of_ble_eq_true rfl, Nat.le_of_ble_eq_true rfl⟩) ⟨PM_blind, PM_pre⟩ rfl rfl hl.1 rfl (lv_room (Nat.le_of_ble_eq_true rfl)) dX11_drop_176 ⟨show 0 + 0 ≤ 0 by omega, show 0 + 0 ≤ 0 by omega⟩) (fun r43 h => ?_)
        obtain ⟨z44, h⟩ := h
        refine m_iast hx hb hK hw (by decide) z44 dX11_drop_179 (fun H locs hw => ?_)
        refine lv_aload_n hx hb dX11_drop_180 rfl (lv_at hl 1 rfl) ?_
        refine m_get (i := 2) hx hb ht hown hK hw (by decide) (ht _ q_1315) rfl rfl dX11_drop_181 ?_
        refine lv_iload_n hx hb dX11_drop_184 rfl (lv_at hl 2 rfl) ?_
        refine lv_aload_n hx hb dX11_drop_185 rfl (lv_at hl 1 rfl) ?_
        refine m_get (i := 2) hx hb ht hown hK hw (by decide) (ht _ q_1315) rfl rfl dX11_drop_186 ?_
        refine lv_iload_n hx hb dX11_drop_189 rfl (lv_at hl 2 rfl) ?_
        obtain ⟨z45, h⟩ := h
        refine m_iald hx hb hK hw (by decide) z45 dX11_drop_190 ?_
        refine lv_iload_n hx hb dX11_drop_191 rfl (lv_at hl 3 rfl) ?_
        refine P_calli (va_runS (own := "LeastreaderModel") (As := [.int ((tms μ41 2 a1.toNatClampNeg r43) 3 a1.toNatClampNeg), .int a2]) (rest := [.int a1, .ref (ad 3)]) ⟨hx, hb, hml, hown, ht⟩ (c_X11_without ((tms μ41 2 a1.toNatClampNeg r43) 3 a1.toNatClampNeg) a2 h) (va_cwS 2 ht (G_S q_1445 q_1446 q_56 q_1447) rfl rfl rfl hd_102 ⟨Nat.le_of_ble_eq_true rfl, Nat.le_of_ble_eq_true rfl⟩) ⟨PM_blind, PM_pre⟩ rfl rfl hl.1 rfl (lv_room (Nat.le_of_ble_eq_true rfl)) dX11_drop_192 ⟨show 0 + 0 ≤ 0 by omega, show 0 + 0 ≤ 0 by omega⟩) (fun r46 h => ?_)
        obtain ⟨z47, h⟩ := h
        refine m_iast hx hb hK hw (by decide) z47 dX11_drop_195 (fun H locs hw => ?_)
        refine lv_aload_n hx hb dX11_drop_196 rfl (lv_at hl 1 rfl) ?_
        refine m_get (i := 0) hx hb ht hown hK hw (by decide) (ht _ q_1313) rfl rfl dX11_drop_197 ?_
        refine lv_iload_n hx hb dX11_drop_200 rfl (lv_at hl 2 rfl) ?_
        refine lv_dup2_11 hx hb dX11_drop_201 rfl rfl ?_
        obtain ⟨z48, h⟩ := h
        refine m_iald hx hb hK hw (by decide) z48 dX11_drop_202 ?_
        refine lv_iconst (v := (1 : Int32)) hx hb dX11_drop_203 (by decide) ?_
        refine lv_isub hx hb dX11_drop_204 ?_
        obtain ⟨z49, h⟩ := h
        refine m_iast hx hb hK hw (by decide) z49 dX11_drop_205 (fun H locs hw => ?_)
        refine lv_aload_n hx hb dX11_drop_206 rfl (lv_at hl 1 rfl) ?_
        refine lv_iload_n hx hb dX11_drop_207 rfl (lv_at hl 0 rfl) ?_
        refine lv_aload_n hx hb dX11_drop_208 rfl (lv_at hl 1 rfl) ?_
        refine lv_iload_n hx hb dX11_drop_209 rfl (lv_at hl 2 rfl) ?_
        refine M_calli hw (MA.up hw.2.2.1.1) (va_runV (own := "LeastreaderModel") (As := [.int a1]) (rest := [.int r11, .ref (ad 0)]) ⟨hx, hb, hml, hown, ht⟩ (c_X11_arrowsOf (tms (tms (tms μ41 2 a1.toNatClampNeg r43) 3 a1.toNatClampNeg r46) 1 a1.toNatClampNeg (((tms (tms μ41 2 a1.toNatClampNeg r43) 3 a1.toNatClampNeg r46) 1 a1.toNatClampNeg) - (1 : Int32))) H.size a1 h) (cwV 1 ht (G_V q_1356 q_1358 q_27 q_56 q_1359) rfl rfl rfl ⟨rfl, hd_93⟩ ⟨Nat.le_of_ble_eq_true rfl, Nat.le_of_ble_eq_true rfl⟩) ⟨MB.blind, M_recv hK hw, MB.pre hK hI hw va_P0 ne0⟩ rfl rfl hl.1 rfl (lv_room (Nat.le_of_ble_eq_true rfl)) dX11_drop_210 ⟨show 0 + 0 ≤ 0 by omega, show 0 + 0 ≤ 0 by omega⟩) (fun r52 μ50 H locs h hw => ?_)
        obtain ⟨e51, h⟩ := h
        rw [e51] at hw
        refine lv_isub hx hb dX11_drop_213 ?_
        refine M_calli hw (MA.up hw.2.2.1.1) (va_runV (own := "LeastreaderModel") (As := [.int (r11 - r52)]) (rest := []) ⟨hx, hb, hml, hown, ht⟩ (c_X11_did (tms (tms (tms μ41 2 a1.toNatClampNeg r43) 3 a1.toNatClampNeg r46) 1 a1.toNatClampNeg (((tms (tms μ41 2 a1.toNatClampNeg r43) 3 a1.toNatClampNeg r46) 1 a1.toNatClampNeg) - (1 : Int32))) H.size (r11 - r52) h) (cwV 1 ht (G_V q_1368 q_1370 q_29 q_56 q_1371) rfl rfl rfl ⟨rfl, hd_95⟩ ⟨Nat.le_of_ble_eq_true rfl, Nat.le_of_ble_eq_true rfl⟩) ⟨MB.blind, M_recv hK hw, MB.pre hK hI hw va_P0 ne0⟩ rfl rfl hl.1 rfl (lv_room (Nat.le_of_ble_eq_true rfl)) dX11_drop_214 ⟨show 0 + 0 ≤ 0 by omega, show 0 + 0 ≤ 0 by omega⟩) (fun r54 μ53 H locs h hw => ?_)
        exact hret H locs ls 217 _ _ _ _ _ hw h rfl (show 0 ≤ 0 by omega) (show 0 ≤ 0 by omega) dX11_drop_217
      have h := h.2 c8
      refine lv_aload_n hx hb dX11_drop_41 rfl (lv_at hl 0 rfl) ?_
      refine M_calli hw (MA.up hw.2.2.1.1) (va_runV (own := "LeastreaderModel") (As := []) (rest := []) ⟨hx, hb, hml, hown, ht⟩ (c_X11_refuse μ4 H.size h) (cwV 0 ht (G_V q_1433 q_1435 q_35 q_56 q_1436) rfl rfl rfl ⟨rfl, hd_101⟩ ⟨Nat.le_of_ble_eq_true rfl, Nat.le_of_ble_eq_true rfl⟩) ⟨MB.blind, M_recv hK hw, MB.pre hK hI hw va_P0 ne0⟩ rfl rfl hl.1 rfl (lv_room (Nat.le_of_ble_eq_true rfl)) dX11_drop_42 ⟨show 0 + 0 ≤ 0 by omega, show 0 + 0 ≤ 0 by omega⟩) (fun r56 μ55 H locs h hw => ?_)
      exact hret H locs ls 45 _ _ _ _ _ hw h rfl (show 0 ≤ 0 by omega) (show 0 ≤ 0 by omega) dX11_drop_45
    have h := h.2 c6
    refine lv_iconst (v := (0 : Int32)) hx hb dX11_drop_29 (by decide) ?_
    exact hret H locs ls 30 _ _ _ _ _ hw h rfl (show 0 ≤ 0 by omega) (show 0 ≤ 0 by omega) dX11_drop_30)
  refine lv_if_eq (tgt := 21) hx hb dX11_drop_5 (by decide) (fun c57 => ?_) (fun c57 => ?_)
  · have h := h.1 c57
    refine lv_iconst (v := (0 : Int32)) hx hb dX11_drop_21 (by decide) ?_
    exact h H locs ls hw (lv_sub hl [0, 1, 2] rfl)
  have h := h.2 c57
  refine lv_aload_n hx hb dX11_drop_8 rfl (lv_at hl 0 rfl) ?_
  refine lv_iload_n hx hb dX11_drop_9 rfl (lv_at hl 1 rfl) ?_
  refine lv_iload_n hx hb dX11_drop_10 rfl (lv_at hl 2 rfl) ?_
  refine M_calli hw (MA.up hw.2.2.1.1) (va_runV (own := "LeastreaderModel") (As := [.int a1, .int a2]) (rest := [.ref (ad 0)]) ⟨hx, hb, hml, hown, ht⟩ (c_X11_isState μ H.size a1 a2 h) (cwV 2 ht (G_V q_1380 q_1382 q_31 q_56 q_1383) rfl rfl rfl ⟨rfl, hd_96⟩ ⟨Nat.le_of_ble_eq_true rfl, Nat.le_of_ble_eq_true rfl⟩) ⟨MB.blind, M_recv hK hw, MB.pre hK hI hw va_P0 ne0⟩ rfl rfl hl.1 rfl (lv_room (Nat.le_of_ble_eq_true rfl)) dX11_drop_11 ⟨show 0 + 0 ≤ 0 by omega, show 0 + 0 ≤ 0 by omega⟩) (fun r60 μ58 H locs h hw => ?_)
  obtain ⟨e59, h⟩ := h
  rw [e59] at hw
  refine lv_if_eq (tgt := 21) hx hb dX11_drop_14 (by decide) (fun c61 => ?_) (fun c61 => ?_)
  · have h := h.1 c61
    refine lv_iconst (v := (0 : Int32)) hx hb dX11_drop_21 (by decide) ?_
    exact h H locs ls hw (lv_sub hl [0, 1, 2] rfl)
  have h := h.2 c61
  refine lv_iconst (v := (1 : Int32)) hx hb dX11_drop_17 (by decide) ?_
  refine lv_goto (tgt := 22) hx hb dX11_drop_18 (by decide) ?_
  exact h H locs ls hw (lv_sub hl [0, 1, 2] rfl)
