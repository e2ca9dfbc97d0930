def wpl_X11_copy_75 (v18 : Int32) (v19 : Int32) (v20 : Int32) (K116 : TMem → Prop) : Nat → Int32 → TMem → Prop
  | 0, _, _ => False
  | n + 1, v17, μ21 =>
    ((21 : Int32) ≤ v17 → (K116 μ21)) ∧ (¬ (21 : Int32) ≤ v17 → (wp_X11_key v20 (0 : Int32) (0 : Int32) (fun (r23 : Int32) => wp_X11_key v19 (0 : Int32) (0 : Int32) (fun (r24 : Int32) => vp_in (r24 + v17) (ml 4) ∧ (vp_in (r23 + v17) (ml 4) ∧ (wpl_X11_copy_75 v18 v19 v20 K116 n (v17 + (1 : Int32)) (tms μ21 4 (r23 + v17).toNatClampNeg (μ21 4 (r24 + v17).toNatClampNeg))))))))
def wp_X11_copy (μ : TMem) (a1 : Int32) (a2 : Int32) (Q : Int32 → TMem → Prop) : Prop :=
  wp_X11_isOne a1 (fun (r1 : Int32) => ∀ J2 : Int32 → Prop, (∀ (j3 : Int32), (wp_X11_isThrown μ j3 (1 : Int32) (fun (r5 : Int32) (μ4 : TMem) => (r5 = 0 → (wp_X11_isSame μ4 a1 a2 (fun (r9 : Int32) => vp_in a1 (ml 1) ∧ (vp_in a2 (ml 1) ∧ (vp_in a1 (ml 2) ∧ (vp_in a2 (ml 2) ∧ (vp_in a1 (ml 3) ∧ (vp_in a2 (ml 3) ∧ (∃ n15x, wpl_X11_copy_75 r9 a1 a2 (fun (μ28 : TMem) => (r9 = 0 → (wp_X11_did μ28 (1 : Int32) (fun (r31 : Int32) (μ30 : TMem) => Q r31 μ30))) ∧ (¬ r9 = 0 → (wp_X11_did μ28 (0 : Int32) (fun (r33 : Int32) (μ32 : TMem) => Q r33 μ32)))) n15x (0 : Int32) (tms (tms (tms μ4 1 a2.toNatClampNeg (μ4 1 a1.toNatClampNeg)) 2 a2.toNatClampNeg ((tms μ4 1 a2.toNatClampNeg (μ4 1 a1.toNatClampNeg)) 2 a1.toNatClampNeg)) 3 a2.toNatClampNeg ((tms (tms μ4 1 a2.toNatClampNeg (μ4 1 a1.toNatClampNeg)) 2 a2.toNatClampNeg ((tms μ4 1 a2.toNatClampNeg (μ4 1 a1.toNatClampNeg)) 2 a1.toNatClampNeg)) 3 a1.toNatClampNeg))))))))))) ∧ (¬ r5 = 0 → (Q (0 : Int32) μ4)))) → J2 j3) → ((r1 = 0 → (J2 (0 : Int32))) ∧ (¬ r1 = 0 → (wp_X11_isOne a2 (fun (r35 : Int32) => (r35 = 0 → (J2 (0 : Int32))) ∧ (¬ r35 = 0 → (J2 (1 : Int32))))))))
set_option maxHeartbeats 4000000 in
set_option maxRecDepth 100000 in
theorem c_X11_copy {l : Launch} {D : va_G} {ad : Nat → Nat} {cI cL : ClassId}  (μ : TMem) (sz : Nat) (a1 : Int32) (a2 : Int32)  {Q : Int32 → TMem → Prop} (h : wp_X11_copy μ a1 a2 Q) : MMi l yX11_copy (.code yX11_copy cX11_copy 5 (Option.some Jvm.ClassFile.FieldType.int)) 2 0 0 [.ref (ad 0), .int a1, .int a2] D ad cI cL sz μ [] Q := by
  refine M_meti (by decide +kernel) (Nat.le_of_ble_eq_true rfl) ?_
  intro p e s m below meth c Z ls hx hb hml hown ht hK hP0 hI hne hw hret hl
  have hl : lv_has ls 5 [(0, .ref (ad 0)), (1, .int a1), (2, .int a2)] := hl
  suffices hh : ∀ (H : Heap) (locs : List Loc), MW D (MR ad cI μ) [] (MA ad s.heap.size) s H locs → W p l e (RA 2 0 0) s m #[.ref (ad 0), .int a1, .int a2] below meth c H locs 0 0 Z (F0 m 0 ls []) from hh _ _ hw
  intro H locs hw
  change wp_X11_isOne a1 (fun (r1 : Int32) => ∀ J2 : Int32 → Prop, (∀ (j3 : Int32), (wp_X11_isThrown μ j3 (1 : Int32) (fun (r5 : Int32) (μ4 : TMem) => (r5 = 0 → (wp_X11_isSame μ4 a1 a2 (fun (r9 : Int32) => vp_in a1 (ml 1) ∧ (vp_in a2 (ml 1) ∧ (vp_in a1 (ml 2) ∧ (vp_in a2 (ml 2) ∧ (vp_in a1 (ml 3) ∧ (vp_in a2 (ml 3) ∧ (∃ n15x, wpl_X11_copy_75 r9 a1 a2 (fun (μ28 : TMem) => (r9 = 0 → (wp_X11_did μ28 (1 : Int32) (fun (r31 : Int32) (μ30 : TMem) => Q r31 μ30))) ∧ (¬ r9 = 0 → (wp_X11_did μ28 (0 : Int32) (fun (r33 : Int32) (μ32 : TMem) => Q r33 μ32)))) n15x (0 : Int32) (tms (tms (tms μ4 1 a2.toNatClampNeg (μ4 1 a1.toNatClampNeg)) 2 a2.toNatClampNeg ((tms μ4 1 a2.toNatClampNeg (μ4 1 a1.toNatClampNeg)) 2 a1.toNatClampNeg)) 3 a2.toNatClampNeg ((tms (tms μ4 1 a2.toNatClampNeg (μ4 1 a1.toNatClampNeg)) 2 a2.toNatClampNeg ((tms μ4 1 a2.toNatClampNeg (μ4 1 a1.toNatClampNeg)) 2 a1.toNatClampNeg)) 3 a1.toNatClampNeg))))))))))) ∧ (¬ r5 = 0 → (Q (0 : Int32) μ4)))) → J2 j3) → ((r1 = 0 → (J2 (0 : Int32))) ∧ (¬ r1 = 0 → (wp_X11_isOne a2 (fun (r35 : Int32) => (r35 = 0 → (J2 (0 : Int32))) ∧ (¬ r35 = 0 → (J2 (1 : Int32)))))))) at h
  refine lv_aload_n hx hb dX11_copy_0 rfl (lv_at hl 0 rfl) ?_
  refine lv_iload_n hx hb dX11_copy_1 rfl (lv_at hl 1 rfl) ?_
  refine P_calli (va_runS (own := "LeastreaderModel") (As := [.int a1]) (rest := [.ref (ad 0)]) ⟨hx, hb, hml, hown, ht⟩ (c_X11_isOne a1 h) (va_cwS 1 ht (G_S q_1346 q_1347 q_56 q_1348) rfl rfl rfl hd_91 ⟨Nat.le_of_ble_eq_true rfl, Nat.le_of_ble_eq_true rfl⟩) ⟨PM_blind, PM_pre⟩ rfl rfl hl.1 rfl (lv_room (Nat.le_of_ble_eq_true rfl)) dX11_copy_2 ⟨show 0 + 0 ≤ 0 by omega, show 0 + 0 ≤ 0 by omega⟩) (fun r1 h => ?_)
  have h := h (fun (j3 : Int32) => ∀ (H : Heap) (locs : List Loc) (ls : Array Slot), MW D (MR ad cI μ) [] (MA ad s.heap.size) s H locs → lv_has ls 5 [(0, .ref (ad 0)), (1, .int a1), (2, .int a2)] → W p l e (RA 2 0 0) s m #[.ref (ad 0), .int a1, .int a2] below meth c H locs 0 0 Z (F0 m 20 ls [.int j3, .ref (ad 0)])) (fun j3 h H locs ls hw hl => by
    refine lv_iconst (v := (1 : Int32)) hx hb dX11_copy_20 (by decide) ?_
    refine M_calli hw (MA.up hw.2.2.1.1) (va_runV (own := "LeastreaderModel") (As := [.int j3, .int (1 : Int32)]) (rest := []) ⟨hx, hb, hml, hown, ht⟩ (c_X11_isThrown μ H.size j3 (1 : Int32) h) (cwV 2 ht (G_V q_1352 q_1354 q_26 q_56 q_1355) rfl rfl rfl ⟨rfl, hd_92⟩ ⟨Nat.le_of_ble_eq_true rfl, Nat.le_of_ble_eq_true rfl⟩) ⟨MB.blind, M_recv hK hw, MB.pre hK hI hw va_P0 ne0⟩ rfl rfl hl.1 rfl (lv_room (Nat.le_of_ble_eq_true rfl)) dX11_copy_21 ⟨show 0 + 0 ≤ 0 by omega, show 0 + 0 ≤ 0 by omega⟩) (fun r5 μ4 H locs h hw => ?_)
    refine lv_if_eq (tgt := 29) hx hb dX11_copy_24 (by decide) (fun c6 => ?_) (fun c6 => ?_)
    · have h := h.1 c6
      refine lv_aload_n hx hb dX11_copy_29 rfl (lv_at hl 0 rfl) ?_
      refine lv_iload_n hx hb dX11_copy_30 rfl (lv_at hl 1 rfl) ?_
      refine lv_iload_n hx hb dX11_copy_31 rfl (lv_at hl 2 rfl) ?_
      refine M_calli hw (MA.up hw.2.2.1.1) (va_runV (own := "LeastreaderModel") (As := [.int a1, .int a2]) (rest := []) ⟨hx, hb, hml, hown, ht⟩ (c_X11_isSame μ4 H.size a1 a2 h) (cwV 2 ht (G_V q_1402 q_1404 q_32 q_56 q_1405) rfl rfl rfl ⟨rfl, hd_98⟩ ⟨Nat.le_of_ble_eq_true rfl, Nat.le_of_ble_eq_true rfl⟩) ⟨MB.blind, M_recv hK hw, MB.pre hK hI hw va_P0 ne0⟩ rfl rfl hl.1 rfl (lv_room (Nat.le_of_ble_eq_true rfl)) dX11_copy_32 ⟨show 0 + 0 ≤ 0 by omega, show 0 + 0 ≤ 0 by omega⟩) (fun r9 μ7 H locs h hw => ?_)
      obtain ⟨e8, h⟩ := h
      rw [e8] at hw
      refine lv_istore_n (lv' := [(3, .int r9), (0, .ref (ad 0)), (1, .int a1), (2, .int a2)]) hx hb dX11_copy_35 rfl hl (by decide) rfl (fun ls hl => ?_)
      refine lv_aload_n hx hb dX11_copy_36 rfl (lv_at hl 1 rfl) ?_
      refine m_get (i := 0) hx hb ht hown hK hw (by decide) (ht _ q_1313) rfl rfl dX11_copy_37 ?_
      refine lv_iload_n hx hb dX11_copy_40 rfl (lv_at hl 3 rfl) ?_
      refine lv_aload_n hx hb dX11_copy_41 rfl (lv_at hl 1 rfl) ?_
      refine m_get (i := 0) hx hb ht hown hK hw (by decide) (ht _ q_1313) rfl rfl dX11_copy_42 ?_
      refine lv_iload_n hx hb dX11_copy_45 rfl (lv_at hl 2 rfl) ?_
      obtain ⟨z10, h⟩ := h
      refine m_iald hx hb hK hw (by decide) z10 dX11_copy_46 ?_
      obtain ⟨z11, h⟩ := h
      refine m_iast hx hb hK hw (by decide) z11 dX11_copy_47 (fun H locs hw => ?_)
      refine lv_aload_n hx hb dX11_copy_48 rfl (lv_at hl 1 rfl) ?_
      refine m_get (i := 1) hx hb ht hown hK hw (by decide) (ht _ q_1314) rfl rfl dX11_copy_49 ?_
      refine lv_iload_n hx hb dX11_copy_52 rfl (lv_at hl 3 rfl) ?_
      refine lv_aload_n hx hb dX11_copy_53 rfl (lv_at hl 1 rfl) ?_
      refine m_get (i := 1) hx hb ht hown hK hw (by decide) (ht _ q_1314) rfl rfl dX11_copy_54 ?_
      refine lv_iload_n hx hb dX11_copy_57 rfl (lv_at hl 2 rfl) ?_
      obtain ⟨z12, h⟩ := h
      refine m_iald hx hb hK hw (by decide) z12 dX11_copy_58 ?_
      obtain ⟨z13, h⟩ := h
      refine m_iast hx hb hK hw (by decide) z13 dX11_copy_59 (fun H locs hw => ?_)
      refine lv_aload_n hx hb dX11_copy_60 rfl (lv_at hl 1 rfl) ?_
      refine m_get (i := 2) hx hb ht hown hK hw (by decide) (ht _ q_1315) rfl rfl dX11_copy_61 ?_
      refine lv_iload_n hx hb dX11_copy_64 rfl (lv_at hl 3 rfl) ?_
      refine lv_aload_n hx hb dX11_copy_65 rfl (lv_at hl 1 rfl) ?_
      refine m_get (i := 2) hx hb ht hown hK hw (by decide) (ht _ q_1315) rfl rfl dX11_copy_66 ?_
      refine lv_iload_n hx hb dX11_copy_69 rfl (lv_at hl 2 rfl) ?_
      obtain ⟨z14, h⟩ := h
      refine m_iald hx hb hK hw (by decide) z14 dX11_copy_70 ?_
      obtain ⟨z15, h⟩ := h
      refine m_iast hx hb hK hw (by decide) z15 dX11_copy_71 (fun H locs hw => ?_)
      refine lv_iconst (v := (0 : Int32)) hx hb dX11_copy_72 (by decide) ?_
      refine lv_istore (lv' := [(4, .int (0 : Int32)), (3, .int r9), (0, .ref (ad 0)), (1, .int a1), (2, .int a2)]) hx hb dX11_copy_73 hl (by decide) rfl (fun ls hl => ?_)
      obtain ⟨n27, h⟩ := h
      have L15 : ∀ (v18 : Int32) (v19 : Int32) (v20 : Int32) (K116 : TMem → Prop), (∀ (μ21 : TMem), ∀ (H : Heap) (locs : List Loc) (ls : Array Slot), MW D (MR ad cI μ21) [] (MA ad s.heap.size) s H locs → lv_has ls 5 [(3, .int v18), (0, .ref (ad 0))] → K116 μ21 → W p l e (RA 2 0 0) s m #[.ref (ad 0), .int a1, .int a2] below meth c H locs 0 0 Z (F0 m 116 ls [])) → ∀ (n : Nat), ∀ (v17 : Int32) (μ21 : TMem), ∀ (H : Heap) (locs : List Loc) (ls : Array Slot), MW D (MR ad cI μ21) [] (MA ad s.heap.size) s H locs → lv_has ls 5 [(4, .int v17), (3, .int v18), (0, .ref (ad 0)), (1, .int v19), (2, .int v20)] → wpl_X11_copy_75 v18 v19 v20 K116 n v17 μ21 → W p l e (RA 2 0 0) s m #[.ref (ad 0), .int a1, .int a2] below meth c H locs 0 0 Z (F0 m 75 ls []) := by
        intro v18 v19 v20 K116 hK116
        intro n
        induction n with
        | zero => intro v17 μ21 H locs ls hw hl h; exact False.elim h
        | succ n ih15 =>
          intro v17 μ21 H locs ls hw hl h
          change ((21 : Int32) ≤ v17 → (K116 μ21)) ∧ (¬ (21 : Int32) ≤ v17 → (wp_X11_key v20 (0 : Int32) (0 : Int32) (fun (r23 : Int32) => wp_X11_key v19 (0 : Int32) (0 : Int32) (fun (r24 : Int32) => vp_in (r24 + v17) (ml 4) ∧ (vp_in (r23 + v17) (ml 4) ∧ (wpl_X11_copy_75 v18 v19 v20 K116 n (v17 + (1 : Int32)) (tms μ21 4 (r23 + v17).toNatClampNeg (μ21 4 (r24 + v17).toNatClampNeg)))))))) at h
          refine lv_iload hx hb dX11_copy_75 (lv_at hl 0 rfl) ?_
          refine lv_bipush (v := (21 : Int32)) hx hb dX11_copy_77 (by decide) ?_
          refine lv_icmp_ge (tgt := 116) hx hb dX11_copy_79 (by decide) (fun c22 => ?_) (fun c22 => ?_)
          · have h := h.1 c22
            exact hK116 μ21 H locs ls hw (lv_sub hl [1, 2] rfl) h
          have h := h.2 c22
          refine lv_aload_n hx hb dX11_copy_82 rfl (lv_at hl 2 rfl) ?_
          refine m_get (i := 3) hx hb ht hown hK hw (by decide) (ht _ q_1316) rfl rfl dX11_copy_83 ?_
          refine lv_iload_n hx hb dX11_copy_86 rfl (lv_at hl 4 rfl) ?_
          refine lv_iconst (v := (0 : Int32)) hx hb dX11_copy_87 (by decide) ?_
          refine lv_iconst (v := (0 : Int32)) hx hb dX11_copy_88 (by decide) ?_
          refine P_calli (va_runS (own := "LeastreaderModel") (As := [.int v20, .int (0 : Int32), .int (0 : Int32)]) (rest := [.ref (ad 4)]) ⟨hx, hb, hml, hown, ht⟩ (c_X11_key v20 (0 : Int32) (0 : Int32) h) (va_cwS 3 ht (G_S q_1360 q_1361 q_56 q_1362) rfl rfl rfl hd_79 ⟨Nat.le_of_ble_eq_true rfl, Nat.le_of_ble_eq_true rfl⟩) ⟨PM_blind, PM_pre⟩ rfl rfl hl.1 rfl (lv_room (Nat.le_of_ble_eq_true rfl)) dX11_copy_89 ⟨show 0 + 0 ≤ 0 by omega, show 0 + 0 ≤ 0 by omega⟩) (fun r23 h => ?_)
          refine lv_iload hx hb dX11_copy_92 (lv_at hl 0 rfl) ?_
          refine lv_iadd hx hb dX11_copy_94 ?_
          refine lv_aload_n hx hb dX11_copy_95 rfl (lv_at hl 2 rfl) ?_
          refine m_get (i := 3) hx hb ht hown hK hw (by decide) (ht _ q_1316) rfl rfl dX11_copy_96 ?_
          refine lv_iload_n hx hb dX11_copy_99 rfl (lv_at hl 3 rfl) ?_
          refine lv_iconst (v := (0 : Int32)) hx hb dX11_copy_100 (by decide) ?_
          refine lv_iconst (v := (0 : Int32)) hx hb dX11_copy_101 (by decide) ?_
          refine P_calli (va_runS (own := "LeastreaderModel") (As := [.int v19, .int (0 : Int32), .int (0 : Int32)]) (rest := [.ref (ad 4), .int (r23 + v17), .ref (ad 4)]) ⟨hx, hb, hml, hown, ht⟩ (c_X11_key v19 (0 : Int32) (0 : Int32) h) (va_cwS 3 ht (G_S q_1360 q_1361 q_56 q_1362) rfl rfl rfl hd_79 ⟨Nat.le_of_ble_eq_true rfl, Nat.le_of_ble_eq_true rfl⟩) ⟨PM_blind, PM_pre⟩ rfl rfl hl.1 rfl (lv_room (Nat.le_of_ble_eq_true rfl)) dX11_copy_102 ⟨show 0 + 0 ≤ 0 by omega, show 0 + 0 ≤ 0 by omega⟩) (fun r24 h => ?_)
          refine lv_iload hx hb dX11_copy_105 (lv_at hl 0 rfl) ?_
          refine lv_iadd hx hb dX11_copy_107 ?_
          obtain ⟨z25, h⟩ := h
          refine m_iald hx hb hK hw (by decide) z25 dX11_copy_108 ?_
          obtain ⟨z26, h⟩ := h
          refine m_iast hx hb hK hw (by decide) z26 dX11_copy_109 (fun H locs hw => ?_)
          refine lv_iinc (v := (v17 + (1 : Int32))) (lv' := [(4, .int (v17 + (1 : Int32))), (3, .int v18), (0, .ref (ad 0)), (1, .int v19), (2, .int v20)]) hx hb dX11_copy_110 hl (k := 0) rfl rfl (by decide) rfl (fun ls hl => ?_)
          refine lv_goto (tgt := 75) hx hb dX11_copy_113 (by decide) ?_
          exact ih15 (v17 + (1 : Int32)) (tms μ21 4 (r23 + v17).toNatClampNeg (μ21 4 (r24 + v17).toNatClampNeg)) H locs ls hw (lv_sub hl [0, 1, 2, 3, 4] rfl) h
      refine L15 r9 a1 a2 _ ?_ n27 (0 : Int32) (tms (tms (tms μ4 1 a2.toNatClampNeg (μ4 1 a1.toNatClampNeg)) 2 a2.toNatClampNeg ((tms μ4 1 a2.toNatClampNeg (μ4 1 a1.toNatClampNeg)) 2 a1.toNatClampNeg)) 3 a2.toNatClampNeg ((tms (tms μ4 1 a2.toNatClampNeg (μ4 1 a1.toNatClampNeg)) 2 a2.toNatClampNeg ((tms μ4 1 a2.toNatClampNeg (μ4 1 a1.toNatClampNeg)) 2 a1.toNatClampNeg)) 3 a1.toNatClampNeg)) H locs ls hw (lv_sub hl [0, 1, 2, 3, 4] rfl) h
      intro μ28 H locs ls hw hl h
      refine lv_aload_n hx hb dX11_copy_116 rfl (lv_at hl 1 rfl) ?_
      refine lv_iload_n hx hb dX11_copy_117 rfl (lv_at hl 0 rfl) ?_
      refine lv_if_eq (tgt := 125) hx hb dX11_copy_118 (by decide) (fun c29 => ?_) (fun c29 => ?_)
      · have h := h.1 c29
        refine lv_iconst (v := (1 : Int32)) hx hb dX11_copy_125 (by decide) ?_
        refine M_calli hw (MA.up hw.2.2.1.1) (va_runV (own := "LeastreaderModel") (As := [.int (1 : Int32)]) (rest := []) ⟨hx, hb, hml, hown, ht⟩ (c_X11_did μ28 H.size (1 : Int32) h) (cwV 1 ht (G_V q_1368 q_1370 q_29 q_56 q_1371) rfl rfl rfl ⟨rfl, hd_95⟩ ⟨Nat.le_of_ble_eq_true rfl, Nat.le_of_ble_eq_true rfl⟩) ⟨MB.blind, M_recv hK hw, MB.pre hK hI hw va_P0 ne0⟩ rfl rfl hl.1 rfl (lv_room (Nat.le_of_ble_eq_true rfl)) dX11_copy_126 ⟨show 0 + 0 ≤ 0 by omega, show 0 + 0 ≤ 0 by omega⟩) (fun r31 μ30 H locs h hw => ?_)
        exact hret H locs ls 129 _ _ _ _ _ hw h rfl (show 0 ≤ 0 by omega) (show 0 ≤ 0 by omega) dX11_copy_129
      have h := h.2 c29
      refine lv_iconst (v := (0 : Int32)) hx hb dX11_copy_121 (by decide) ?_
      refine lv_goto (tgt := 126) hx hb dX11_copy_122 (by decide) ?_
      refine M_calli hw (MA.up hw.2.2.1.1) (va_runV (own := "LeastreaderModel") (As := [.int (0 : Int32)]) (rest := []) ⟨hx, hb, hml, hown, ht⟩ (c_X11_did μ28 H.size (0 : Int32) h) (cwV 1 ht (G_V q_1368 q_1370 q_29 q_56 q_1371) rfl rfl rfl ⟨rfl, hd_95⟩ ⟨Nat.le_of_ble_eq_true rfl, Nat.le_of_ble_eq_true rfl⟩) ⟨MB.blind, M_recv hK hw, MB.pre hK hI hw va_P0 ne0⟩ rfl rfl hl.1 rfl (lv_room (Nat.le_of_ble_eq_true rfl)) dX11_copy_126 ⟨show 0 + 0 ≤ 0 by omega, show 0 + 0 ≤ 0 by omega⟩) (fun r33 μ32 H locs h hw => ?_)
      exact hret H locs ls 129 _ _ _ _ _ hw h rfl (show 0 ≤ 0 by omega) (show 0 ≤ 0 by omega) dX11_copy_129
    have h := h.2 c6
    refine lv_iconst (v := (0 : Int32)) hx hb dX11_copy_27 (by decide) ?_
    exact hret H locs ls 28 _ _ _ _ _ hw h rfl (show 0 ≤ 0 by omega) (show 0 ≤ 0 by omega) dX11_copy_28)
  refine lv_if_eq (tgt := 19) hx hb dX11_copy_5 (by decide) (fun c34 => ?_) (fun c34 => ?_)
  · have h := h.1 c34
    refine lv_iconst (v := (0 : Int32)) hx hb dX11_copy_19 (by decide) ?_
    exact h H locs ls hw (lv_sub hl [0, 1, 2] rfl)
  have h := h.2 c34
  refine lv_iload_n hx hb dX11_copy_8 rfl (lv_at hl 2 rfl) ?_
  refine P_calli (va_runS (own := "LeastreaderModel") (As := [.int a2]) (rest := [.ref (ad 0)]) ⟨hx, hb, hml, hown, ht⟩ (c_X11_isOne a2 h) (va_cwS 1 ht (G_S q_1346 q_1347 q_56 q_1348) rfl rfl rfl hd_91 ⟨Nat.le_of_ble_eq_true rfl, Nat.le_of_ble_eq_true rfl⟩) ⟨PM_blind, PM_pre⟩ rfl rfl hl.1 rfl (lv_room (Nat.le_of_ble_eq_true rfl)) dX11_copy_9 ⟨show 0 + 0 ≤ 0 by omega, show 0 + 0 ≤ 0 by omega⟩) (fun r35 h => ?_)
  refine lv_if_eq (tgt := 19) hx hb dX11_copy_12 (by decide) (fun c36 => ?_) (fun c36 => ?_)
  · have h := h.1 c36
    refine lv_iconst (v := (0 : Int32)) hx hb dX11_copy_19 (by decide) ?_
    exact h H locs ls hw (lv_sub hl [0, 1, 2] rfl)
  have h := h.2 c36
  refine lv_iconst (v := (1 : Int32)) hx hb dX11_copy_15 (by decide) ?_
  refine lv_goto (tgt := 20) hx hb dX11_copy_16 (by decide) ?_
  exact h H locs ls hw (lv_sub hl [0, 1, 2] rfl)
def wp_X11_exchange (μ : TMem) (k1 : Nat) (a2 : Int32) (a3 : Int32) (Q : TMem → Prop) : Prop :=
  vp_in a2 (ml k1) ∧ (vp_in a3 (ml k1) ∧ (vp_in a2 (ml k1) ∧ (vp_in a3 (ml k1) ∧ (Q (tms (tms μ k1 a2.toNatClampNeg (μ k1 a3.toNatClampNeg)) k1 a3.toNatClampNeg (μ k1 a2.toNatClampNeg))))))
set_option maxHeartbeats 4000000 in
set_option maxRecDepth 100000 in
theorem c_X11_exchange {l : Launch} {D : va_G} {ad : Nat → Nat} {cI cL : ClassId}  (μ : TMem) (sz : Nat) (k1 : Nat) (a2 : Int32) (a3 : Int32) (hk1 : 1 ≤ k1 ∧ k1 < 5) {Q : TMem → Prop} (h : wp_X11_exchange μ k1 a2 a3 Q) : MMv l yX11_exchange (.code yX11_exchange cX11_exchange 4 (Option.none : Option Jvm.ClassFile.FieldType)) 0 0 0 [.ref (ad k1), .int a2, .int a3] D ad cI cL sz μ [] Q := by
  refine M_metv (by decide +kernel) (Nat.le_of_ble_eq_true rfl) ?_
  intro p e s m below meth c Z ls hx hb hml hown ht hK hP0 hI hne hw hret hl
  have hl : lv_has ls 4 [(0, .ref (ad k1)), (1, .int a2), (2, .int a3)] := hl
  suffices hh : ∀ (H : Heap) (locs : List Loc), MW D (MR ad cI μ) [] (MA ad s.heap.size) s H locs → W p l e (RA 0 0 0) s m #[.ref (ad k1), .int a2, .int a3] below meth c H locs 0 0 Z (F0 m 0 ls []) from hh _ _ hw
  intro H locs hw
  change vp_in a2 (ml k1) ∧ (vp_in a3 (ml k1) ∧ (vp_in a2 (ml k1) ∧ (vp_in a3 (ml k1) ∧ (Q (tms (tms μ k1 a2.toNatClampNeg (μ k1 a3.toNatClampNeg)) k1 a3.toNatClampNeg (μ k1 a2.toNatClampNeg)))))) at h
  refine lv_aload_n hx hb dX11_exchange_0 rfl (lv_at hl 0 rfl) ?_
  refine lv_iload_n hx hb dX11_exchange_1 rfl (lv_at hl 1 rfl) ?_
  obtain ⟨z1, h⟩ := h
  refine m_iald hx hb hK hw hk1 z1 dX11_exchange_2 ?_
  refine lv_istore_n (lv' := [(3, .int (μ k1 a2.toNatClampNeg)), (0, .ref (ad k1)), (1, .int a2), (2, .int a3)]) hx hb dX11_exchange_3 rfl hl (by decide) rfl (fun ls hl => ?_)
  refine lv_aload_n hx hb dX11_exchange_4 rfl (lv_at hl 1 rfl) ?_
  refine lv_iload_n hx hb dX11_exchange_5 rfl (lv_at hl 2 rfl) ?_
  refine lv_aload_n hx hb dX11_exchange_6 rfl (lv_at hl 1 rfl) ?_
  refine lv_iload_n hx hb dX11_exchange_7 rfl (lv_at hl 3 rfl) ?_
  obtain ⟨z2, h⟩ := h
  refine m_iald hx hb hK hw hk1 z2 dX11_exchange_8 ?_
  obtain ⟨z3, h⟩ := h
  refine m_iast hx hb hK hw hk1 z3 dX11_exchange_9 (fun H locs hw => ?_)
  refine lv_aload_n hx hb dX11_exchange_10 rfl (lv_at hl 1 rfl) ?_
  refine lv_iload_n hx hb dX11_exchange_11 rfl (lv_at hl 3 rfl) ?_
  refine lv_iload_n hx hb dX11_exchange_12 rfl (lv_at hl 0 rfl) ?_
  obtain ⟨z4, h⟩ := h
  refine m_iast hx hb hK hw hk1 z4 dX11_exchange_13 (fun H locs hw => ?_)
  exact hret H locs ls 14 _ _ _ _ hw h (show 0 ≤ 0 by omega) (show 0 ≤ 0 by omega) dX11_exchange_14
def wpl_X11_swap_66 (v15 : Int32) (v16 : Int32) (v17 : Int32) (K104 : TMem → Prop) : Nat → Int32 → TMem → Prop
  | 0, _, _ => False
  | n + 1, v14, μ18 =>
    ((21 : Int32) ≤ v14 → (K104 μ18)) ∧ (¬ (21 : Int32) ≤ v14 → (wp_X11_key v16 (0 : Int32) (0 : Int32) (fun (r20 : Int32) => wp_X11_key v17 (0 : Int32) (0 : Int32) (fun (r21 : Int32) => wp_X11_exchange μ18 4 (r20 + v14) (r21 + v14) (fun (μ22 : TMem) => wpl_X11_swap_66 v15 v16 v17 K104 n (v14 + (1 : Int32)) μ22)))))
def wp_X11_swap (μ : TMem) (a1 : Int32) (a2 : Int32) (Q : Int32 → TMem → Prop) : Prop :=
  wp_X11_isOne a1 (fun (r1 : Int32) => ∀ J2 : Int32 → Prop, (∀ (j3 : Int32), (wp_X11_isThrown μ j3 (1 : Int32) (fun (r5 : Int32) (μ4 : TMem) => (r5 = 0 → (wp_X11_isSame μ4 a1 a2 (fun (r9 : Int32) => wp_X11_exchange μ4 1 a1 a2 (fun (μ10 : TMem) => wp_X11_exchange μ10 2 a1 a2 (fun (μ11 : TMem) => wp_X11_exchange μ11 3 a1 a2 (fun (μ12 : TMem) => ∃ n12x, wpl_X11_swap_66 r9 a1 a2 (fun (μ24 : TMem) => (r9 = 0 → (wp_X11_did μ24 (1 : Int32) (fun (r27 : Int32) (μ26 : TMem) => Q r27 μ26))) ∧ (¬ r9 = 0 → (wp_X11_did μ24 (0 : Int32) (fun (r29 : Int32) (μ28 : TMem) => Q r29 μ28)))) n12x (0 : Int32) μ12)))))) ∧ (¬ r5 = 0 → (Q (0 : Int32) μ4)))) → J2 j3) → ((r1 = 0 → (J2 (0 : Int32))) ∧ (¬ r1 = 0 → (wp_X11_isOne a2 (fun (r31 : Int32) => (r31 = 0 → (J2 (0 : Int32))) ∧ (¬ r31 = 0 → (J2 (1 : Int32))))))))
set_option maxHeartbeats 4000000 in
set_option maxRecDepth 100000 in
theorem c_X11_swap {l : Launch} {D : va_G} {ad : Nat → Nat} {cI cL : ClassId}  (μ : TMem) (sz : Nat) (a1 : Int32) (a2 : Int32)  {Q : Int32 → TMem → Prop} (h : wp_X11_swap μ a1 a2 Q) : MMi l yX11_swap (.code yX11_swap cX11_swap 5 (Option.some Jvm.ClassFile.FieldType.int)) 2 0 0 [.ref (ad 0), .int a1, .int a2] D ad cI cL sz μ [] Q := by
  refine M_meti (by decide +kernel) (Nat.le_of_ble_eq_true rfl) ?_
  intro p e s m below meth c Z ls hx hb hml hown ht hK hP0 hI hne hw hret hl
  have hl : lv_has ls 5 [(0, .ref (ad 0)), (1, .int a1), (2, .int a2)] := hl
  suffices hh : ∀ (H : Heap) (locs : List Loc), MW D (MR ad cI μ) [] (MA ad s.heap.size) s H locs → W p l e (RA 2 0 0) s m #[.ref (ad 0), .int a1, .int a2] below meth c H locs 0 0 Z (F0 m 0 ls []) from hh _ _ hw
  intro H locs hw
  change wp_X11_isOne a1 (fun (r1 : Int32) => ∀ J2 : Int32 → Prop, (∀ (j3 : Int32), (wp_X11_isThrown μ j3 (1 : Int32) (fun (r5 : Int32) (μ4 : TMem) => (r5 = 0 → (wp_X11_isSame μ4 a1 a2 (fun (r9 : Int32) => wp_X11_exchange μ4 1 a1 a2 (fun (μ10 : TMem) => wp_X11_exchange μ10 2 a1 a2 (fun (μ11 : TMem) => wp_X11_exchange μ11 3 a1 a2 (fun (μ12 : TMem) => ∃ n12x, wpl_X11_swap_66 r9 a1 a2 (fun (μ24 : TMem) => (r9 = 0 → (wp_X11_did μ24 (1 : Int32) (fun (r27 : Int32) (μ26 : TMem) => Q r27 μ26))) ∧ (¬ r9 = 0 → (wp_X11_did μ24 (0 : Int32) (fun (r29 : Int32) (μ28 : TMem) => Q r29 μ28)))) n12x (0 : Int32) μ12)))))) ∧ (¬ r5 = 0 → (Q (0 : Int32) μ4)))) → J2 j3) → ((r1 = 0 → (J2 (0 : Int32))) ∧ (¬ r1 = 0 → (wp_X11_isOne a2 (fun (r31 : Int32) => (r31 = 0 → (J2 (0 : Int32))) ∧ (¬ r31 = 0 → (J2 (1 : Int32)))))))) at h
  refine lv_aload_n hx hb dX11_swap_0 rfl (lv_at hl 0 rfl) ?_
  refine lv_iload_n hx hb dX11_swap_1 rfl (lv_at hl 1 rfl) ?_
  refine P_calli (va_runS (own := "LeastreaderModel") (As := [.int a1]) (rest := [.ref (ad 0)]) ⟨hx, hb, hml, hown, ht⟩ (c_X11_isOne a1 h) (va_cwS 1 ht (G_S q_1346 q_1347 q_56 q_1348) rfl rfl rfl hd_91 ⟨Nat.le_of_ble_eq_true rfl, Nat.le_of_ble_eq_true rfl⟩) ⟨PM_blind, PM_pre⟩ rfl rfl hl.1 rfl (lv_room (Nat.le_of_ble_eq_true rfl)) dX11_swap_2 ⟨show 0 + 0 ≤ 0 by omega, show 0 + 0 ≤ 0 by omega⟩) (fun r1 h => ?_)
  have h := h (fun (j3 : Int32) => ∀ (H : Heap) (locs : List Loc) (ls : Array Slot), MW D (MR ad cI μ) [] (MA ad s.heap.size) s H locs → lv_has ls 5 [(0, .ref (ad 0)), (1, .int a1), (2, .int a2)] → W p l e (RA 2 0 0) s m #[.ref (ad 0), .int a1, .int a2] below meth c H locs 0 0 Z (F0 m 20 ls [.int j3, .ref (ad 0)])) (fun j3 h H locs ls hw hl => by
    refine lv_iconst (v := (1 : Int32)) hx hb dX11_swap_20 (by decide) ?_
    refine M_calli hw (MA.up hw.2.2.1.1) (va_runV (own := "LeastreaderModel") (As := [.int j3, .int (1 : Int32)]) (rest := []) ⟨hx, hb, hml, hown, ht⟩ (c_X11_isThrown μ H.size j3 (1 : Int32) h) (cwV 2 ht (G_V q_1352 q_1354 q_26 q_56 q_1355) rfl rfl rfl ⟨rfl, hd_92⟩ ⟨Nat.le_of_ble_eq_true rfl, Nat.le_of_ble_eq_true rfl⟩) ⟨MB.blind, M_recv hK hw, MB.pre hK hI hw va_P0 ne0⟩ rfl rfl hl.1 rfl (lv_room (Nat.le_of_ble_eq_true rfl)) dX11_swap_21 ⟨show 0 + 0 ≤ 0 by omega, show 0 + 0 ≤ 0 by omega⟩) (fun r5 μ4 H locs h hw => ?_)
    refine lv_if_eq (tgt := 29) hx hb dX11_swap_24 (by decide) (fun c6 => ?_) (fun c6 => ?_)
    · have h := h.1 c6
      refine lv_aload_n hx hb dX11_swap_29 rfl (lv_at hl 0 rfl) ?_
      refine lv_iload_n hx hb dX11_swap_30 rfl (lv_at hl 1 rfl) ?_
      refine lv_iload_n hx hb dX11_swap_31 rfl (lv_at hl 2 rfl) ?_
      refine M_calli hw (MA.up hw.2.2.1.1) (va_runV (own := "LeastreaderModel") (As := [.int a1, .int a2]) (rest := []) ⟨hx, hb, hml, hown, ht⟩ (c_X11_isSame μ4 H.size a1 a2 h) (cwV 2 ht (G_V q_1402 q_1404 q_32 q_56 q_1405) rfl rfl rfl ⟨rfl, hd_98⟩ ⟨Nat.le_of_ble_eq_true rfl, Nat.le_of_ble_eq_true rfl⟩) ⟨MB.blind, M_recv hK hw, MB.pre hK hI hw va_P0 ne0⟩ rfl rfl hl.1 rfl (lv_room (Nat.le_of_ble_eq_true rfl)) dX11_swap_32 ⟨show 0 + 0 ≤ 0 by omega, show 0 + 0 ≤ 0 by omega⟩) (fun r9 μ7 H locs h hw => ?_)
      obtain ⟨e8, h⟩ := h
      rw [e8] at hw
      refine lv_istore_n (lv' := [(3, .int r9), (0, .ref (ad 0)), (1, .int a1), (2, .int a2)]) hx hb dX11_swap_35 rfl hl (by decide) rfl (fun ls hl => ?_)
      refine lv_aload_n hx hb dX11_swap_36 rfl (lv_at hl 1 rfl) ?_
      refine m_get (i := 0) hx hb ht hown hK hw (by decide) (ht _ q_1313) rfl rfl dX11_swap_37 ?_
      refine lv_iload_n hx hb dX11_swap_40 rfl (lv_at hl 2 rfl) ?_
      refine lv_iload_n hx hb dX11_swap_41 rfl (lv_at hl 3 rfl) ?_
      refine M_callv hw (MA.up hw.2.2.1.1) (va_runS (own := "LeastreaderModel") (As := [.ref (ad 1), .int a1, .int a2]) (rest := []) ⟨hx, hb, hml, hown, ht⟩ (c_X11_exchange μ4 H.size 1 a1 a2 (by decide) h) (va_cwS 3 ht (G_S q_1410 q_1411 q_56 q_1412) rfl rfl rfl hd_99 ⟨Nat.le_of_ble_eq_true rfl, Nat.le_of_ble_eq_true rfl⟩) ⟨MB.blind, MB.pre hK hI hw va_P0 ne0⟩ rfl rfl hl.1 rfl (lv_room (Nat.le_of_ble_eq_true rfl)) dX11_swap_42 ⟨show 0 + 0 ≤ 0 by omega, show 0 + 0 ≤ 0 by omega⟩) (fun μ10 H locs h hw => ?_)
      refine lv_aload_n hx hb dX11_swap_45 rfl (lv_at hl 1 rfl) ?_
      refine m_get (i := 1) hx hb ht hown hK hw (by decide) (ht _ q_1314) rfl rfl dX11_swap_46 ?_
      refine lv_iload_n hx hb dX11_swap_49 rfl (lv_at hl 2 rfl) ?_
      refine lv_iload_n hx hb dX11_swap_50 rfl (lv_at hl 3 rfl) ?_
      refine M_callv hw (MA.up hw.2.2.1.1) (va_runS (own := "LeastreaderModel") (As := [.ref (ad 2), .int a1, .int a2]) (rest := []) ⟨hx, hb, hml, hown, ht⟩ (c_X11_exchange μ10 H.size 2 a1 a2 (by decide) h) (va_cwS 3 ht (G_S q_1410 q_1411 q_56 q_1412) rfl rfl rfl hd_99 ⟨Nat.le_of_ble_eq_true rfl, Nat.le_of_ble_eq_true rfl⟩) ⟨MB.blind, MB.pre hK hI hw va_P0 ne0⟩ rfl rfl hl.1 rfl (lv_room (Nat.le_of_ble_eq_true rfl)) dX11_swap_51 ⟨show 0 + 0 ≤ 0 by omega, show 0 + 0 ≤ 0 by omega⟩) (fun μ11 H locs h hw => ?_)
      refine lv_aload_n hx hb dX11_swap_54 rfl (lv_at hl 1 rfl) ?_
      refine m_get (i := 2) hx hb ht hown hK hw (by decide) (ht _ q_1315) rfl rfl dX11_swap_55 ?_
      refine lv_iload_n hx hb dX11_swap_58 rfl (lv_at hl 2 rfl) ?_
      refine lv_iload_n hx hb dX11_swap_59 rfl (lv_at hl 3 rfl) ?_
      refine M_callv hw (MA.up hw.2.2.1.1) (va_runS (own := "LeastreaderModel") (As := [.ref (ad 3), .int a1, .int a2]) (rest := []) ⟨hx, hb, hml, hown, ht⟩ (c_X11_exchange μ11 H.size 3 a1 a2 (by decide) h) (va_cwS 3 ht (G_S q_1410 q_1411 q_56 q_1412) rfl rfl rfl hd_99 ⟨Nat.le_of_ble_eq_true rfl, Nat.le_of_ble_eq_true rfl⟩) ⟨MB.blind, MB.pre hK hI hw va_P0 ne0⟩ rfl rfl hl.1 rfl (lv_room (Nat.le_of_ble_eq_true rfl)) dX11_swap_60 ⟨show 0 + 0 ≤ 0 by omega, show 0 + 0 ≤ 0 by omega⟩) (fun μ12 H locs h hw => ?_)
      refine lv_iconst (v := (0 : Int32)) hx hb dX11_swap_63 (by decide) ?_
      refine lv_istore (lv' := [(4, .int (0 : Int32)), (3, .int r9), (0, .ref (ad 0)), (1, .int a1), (2, .int a2)]) hx hb dX11_swap_64 hl (by decide) rfl (fun ls hl => ?_)
      obtain ⟨n23, h⟩ := h
      have L12 : ∀ (v15 : Int32) (v16 : Int32) (v17 : Int32) (K104 : TMem → Prop), (∀ (μ18 : TMem), ∀ (H : Heap) (locs : List Loc) (ls : Array Slot), MW D (MR ad cI μ18) [] (MA ad s.heap.size) s H locs → lv_has ls 5 [(3, .int v15), (0, .ref (ad 0))] → K104 μ18 → W p l e (RA 2 0 0) s m #[.ref (ad 0), .int a1, .int a2] below meth c H locs 0 0 Z (F0 m 104 ls [])) → ∀ (n : Nat), ∀ (v14 : Int32) (μ18 : TMem), ∀ (H : Heap) (locs : List Loc) (ls : Array Slot), MW D (MR ad cI μ18) [] (MA ad s.heap.size) s H locs → lv_has ls 5 [(4, .int v14), (3, .int v15), (0, .ref (ad 0)), (1, .int v16), (2, .int v17)] → wpl_X11_swap_66 v15 v16 v17 K104 n v14 μ18 → W p l e (RA 2 0 0) s m #[.ref (ad 0), .int a1, .int a2] below meth c H locs 0 0 Z (F0 m 66 ls []) := by
        intro v15 v16 v17 K104 hK104
        intro n
        induction n with
        | zero => intro v14 μ18 H locs ls hw hl h; exact False.elim h
        | succ n ih12 =>
          intro v14 μ18 H locs ls hw hl h
          change ((21 : Int32) ≤ v14 → (K104 μ18)) ∧ (¬ (21 : Int32) ≤ v14 → (wp_X11_key v16 (0 : Int32) (0 : Int32) (fun (r20 : Int32) => wp_X11_key v17 (0 : Int32) (0 : Int32) (fun (r21 : Int32) => wp_X11_exchange μ18 4 (r20 + v14) (r21 + v14) (fun (μ22 : TMem) => wpl_X11_swap_66 v15 v16 v17 K104 n (v14 + (1 : Int32)) μ22))))) at h
          refine lv_iload hx hb dX11_swap_66 (lv_at hl 0 rfl) ?_
          refine lv_bipush (v := (21 : Int32)) hx hb dX11_swap_68 (by decide) ?_
          refine lv_icmp_ge (tgt := 104) hx hb dX11_swap_70 (by decide) (fun c19 => ?_) (fun c19 => ?_)
          · have h := h.1 c19
            exact hK104 μ18 H locs ls hw (lv_sub hl [1, 2] rfl) h
          have h := h.2 c19
          refine lv_aload_n hx hb dX11_swap_73 rfl (lv_at hl 2 rfl) ?_
          refine m_get (i := 3) hx hb ht hown hK hw (by decide) (ht _ q_1316) rfl rfl dX11_swap_74 ?_
          refine lv_iload_n hx hb dX11_swap_77 rfl (lv_at hl 3 rfl) ?_
          refine lv_iconst (v := (0 : Int32)) hx hb dX11_swap_78 (by decide) ?_
          refine lv_iconst (v := (0 : Int32)) hx hb dX11_swap_79 (by decide) ?_
          refine P_calli (va_runS (own := "LeastreaderModel") (As := [.int v16, .int (0 : Int32), .int (0 : Int32)]) (rest := [.ref (ad 4)]) ⟨hx, hb, hml, hown, ht⟩ (c_X11_key v16 (0 : Int32) (0 : Int32) h) (va_cwS 3 ht (G_S q_1360 q_1361 q_56 q_1362) rfl rfl rfl hd_79 ⟨Nat.le_of_ble_eq_true rfl, Nat.le_of_ble_eq_true rfl⟩) ⟨PM_blind, PM_pre⟩ rfl rfl hl.1 rfl (lv_room (Nat.le_of_ble_eq_true rfl)) dX11_swap_80 ⟨show 0 + 0 ≤ 0 by omega, show 0 + 0 ≤ 0 by omega⟩) (fun r20 h => ?_)
          refine lv_iload hx hb dX11_swap_83 (lv_at hl 0 rfl) ?_
          refine lv_iadd hx hb dX11_swap_85 ?_
          refine lv_iload_n hx hb dX11_swap_86 rfl (lv_at hl 4 rfl) ?_
          refine lv_iconst (v := (0 : Int32)) hx hb dX11_swap_87 (by decide) ?_
          refine lv_iconst (v := (0 : Int32)) hx hb dX11_swap_88 (by decide) ?_
          refine P_calli (va_runS (own := "LeastreaderModel") (As := [.int v17, .int (0 : Int32), .int (0 : Int32)]) (rest := [.int (r20 + v14), .ref (ad 4)]) ⟨hx, hb, hml, hown, ht⟩ (c_X11_key v17 (0 : Int32) (0 : Int32) h) (va_cwS 3 ht (G_S q_1360 q_1361 q_56 q_1362) rfl rfl rfl hd_79 ⟨Nat.le_of_ble_eq_true rfl, Nat.le_of_ble_eq_true rfl⟩) ⟨PM_blind, PM_pre⟩ rfl rfl hl.1 rfl (lv_room (Nat.le_of_ble_eq_true rfl)) dX11_swap_89 ⟨show 0 + 0 ≤ 0 by omega, show 0 + 0 ≤ 0 by omega⟩) (fun r21 h => ?_)
          refine lv_iload hx hb dX11_swap_92 (lv_at hl 0 rfl) ?_
          refine lv_iadd hx hb dX11_swap_94 ?_
          refine M_callv hw (MA.up hw.2.2.1.1) (va_runS (own := "LeastreaderModel") (As := [.ref (ad 4), .int (r20 + v14), .int (r21 + v14)]) (rest := []) ⟨hx, hb, hml, hown, ht⟩ (c_X11_exchange μ18 H.size 4 (r20 + v14) (r21 + v14) (by decide) h) (va_cwS 3 ht (G_S q_1410 q_1411 q_56 q_1412) rfl rfl rfl hd_99 ⟨Nat.le_of_ble_eq_true rfl, Nat.le_of_ble_eq_true rfl⟩) ⟨MB.blind, MB.pre hK hI hw va_P0 ne0⟩ rfl rfl hl.1 rfl (lv_room (Nat.le_of_ble_eq_true rfl)) dX11_swap_95 ⟨show 0 + 0 ≤ 0 by omega, show 0 + 0 ≤ 0 by omega⟩) (fun μ22 H locs h hw => ?_)
          refine lv_iinc (v := (v14 + (1 : Int32))) (lv' := [(4, .int (v14 + (1 : Int32))), (3, .int v15), (0, .ref (ad 0)), (1, .int v16), (2, .int v17)]) hx hb dX11_swap_98 hl (k := 0) rfl rfl (by decide) rfl (fun ls hl => ?_)
          refine lv_goto (tgt := 66) hx hb dX11_swap_101 (by decide) ?_
          exact ih12 (v14 + (1 : Int32)) μ22 H locs ls hw (lv_sub hl [0, 1, 2, 3, 4] rfl) h
      refine L12 r9 a1 a2 _ ?_ n23 (0 : Int32) μ12 H locs ls hw (lv_sub hl [0, 1, 2, 3, 4] rfl) h
      intro μ24 H locs ls hw hl h
      refine lv_aload_n hx hb dX11_swap_104 rfl (lv_at hl 1 rfl) ?_
      refine lv_iload_n hx hb dX11_swap_105 rfl (lv_at hl 0 rfl) ?_
      refine lv_if_eq (tgt := 113) hx hb dX11_swap_106 (by decide) (fun c25 => ?_) (fun c25 => ?_)
      · have h := h.1 c25
        refine lv_iconst (v := (1 : Int32)) hx hb dX11_swap_113 (by decide) ?_
        refine M_calli hw (MA.up hw.2.2.1.1) (va_runV (own := "LeastreaderModel") (As := [.int (1 : Int32)]) (rest := []) ⟨hx, hb, hml, hown, ht⟩ (c_X11_did μ24 H.size (1 : Int32) h) (cwV 1 ht (G_V q_1368 q_1370 q_29 q_56 q_1371) rfl rfl rfl ⟨rfl, hd_95⟩ ⟨Nat.le_of_ble_eq_true rfl, Nat.le_of_ble_eq_true rfl⟩) ⟨MB.blind, M_recv hK hw, MB.pre hK hI hw va_P0 ne0⟩ rfl rfl hl.1 rfl (lv_room (Nat.le_of_ble_eq_true rfl)) dX11_swap_114 ⟨show 0 + 0 ≤ 0 by omega, show 0 + 0 ≤ 0 by omega⟩) (fun r27 μ26 H locs h hw => ?_)
        exact hret H locs ls 117 _ _ _ _ _ hw h rfl (show 0 ≤ 0 by omega) (show 0 ≤ 0 by omega) dX11_swap_117
      have h := h.2 c25
      refine lv_iconst (v := (0 : Int32)) hx hb dX11_swap_109 (by decide) ?_
      refine lv_goto (tgt := 114) hx hb dX11_swap_110 (by decide) ?_
      refine M_calli hw (MA.up hw.2.2.1.1) (va_runV (own := "LeastreaderModel") (As := [.int (0 : Int32)]) (rest := []) ⟨hx, hb, hml, hown, ht⟩ (c_X11_did μ24 H.size (0 : Int32) h) (cwV 1 ht (G_V q_1368 q_1370 q_29 q_56 q_1371) rfl rfl rfl ⟨rfl, hd_95⟩ ⟨Nat.le_of_ble_eq_true rfl, Nat.le_of_ble_eq_true rfl⟩) ⟨MB.blind, M_recv hK hw, MB.pre hK hI hw va_P0 ne0⟩ rfl rfl hl.1 rfl (lv_room (Nat.le_of_ble_eq_true rfl)) dX11_swap_114 ⟨show 0 + 0 ≤ 0 by omega, show 0 + 0 ≤ 0 by omega⟩) (fun r29 μ28 H locs h hw => ?_)
      exact hret H locs ls 117 _ _ _ _ _ hw h rfl (show 0 ≤ 0 by omega) (show 0 ≤ 0 by omega) dX11_swap_117
    have h := h.2 c6
    refine lv_iconst (v := (0 : Int32)) hx hb dX11_swap_27 (by decide) ?_
    exact hret H locs ls 28 _ _ _ _ _ hw h rfl (show 0 ≤ 0 by omega) (show 0 ≤ 0 by omega) dX11_swap_28)
  refine lv_if_eq (tgt := 19) hx hb dX11_swap_5 (by decide) (fun c30 => ?_) (fun c30 => ?_)
  · have h := h.1 c30
    refine lv_iconst (v := (0 : Int32)) hx hb dX11_swap_19 (by decide) ?_
    exact h H locs ls hw (lv_sub hl [0, 1, 2] rfl)
  have h := h.2 c30
  refine lv_iload_n hx hb dX11_swap_8 rfl (lv_at hl 2 rfl) ?_
  refine P_calli (va_runS (own := "LeastreaderModel") (As := [.int a2]) (rest := [.ref (ad 0)]) ⟨hx, hb, hml, hown, ht⟩ (c_X11_isOne a2 h) (va_cwS 1 ht (G_S q_1346 q_1347 q_56 q_1348) rfl rfl rfl hd_91 ⟨Nat.le_of_ble_eq_true rfl, Nat.le_of_ble_eq_true rfl⟩) ⟨PM_blind, PM_pre⟩ rfl rfl hl.1 rfl (lv_room (Nat.le_of_ble_eq_true rfl)) dX11_swap_9 ⟨show 0 + 0 ≤ 0 by omega, show 0 + 0 ≤ 0 by omega⟩) (fun r31 h => ?_)
  refine lv_if_eq (tgt := 19) hx hb dX11_swap_12 (by decide) (fun c32 => ?_) (fun c32 => ?_)
  · have h := h.1 c32
    refine lv_iconst (v := (0 : Int32)) hx hb dX11_swap_19 (by decide) ?_
    exact h H locs ls hw (lv_sub hl [0, 1, 2] rfl)
  have h := h.2 c32
  refine lv_iconst (v := (1 : Int32)) hx hb dX11_swap_15 (by decide) ?_
  refine lv_goto (tgt := 20) hx hb dX11_swap_16 (by decide) ?_
  exact h H locs ls hw (lv_sub hl [0, 1, 2] rfl)
def wpl_X11_turn_35 (f9 : Nat → Int64) (n8 : Nat) (v18 : Int32) (v19 : Int32) (K76 : TMem → Prop) : Nat → Int32 → TMem → Prop
  | 0, _, _ => False
  | n + 1, v17, μ20 =>
    ((3 : Int32) ≤ v17 → (K76 μ20)) ∧ (¬ (3 : Int32) ≤ v17 → (wp_X11_key v19 v18 v17 (fun (r22 : Int32) => vp_in v19 (ml 1) ∧ (wp_X11_next n8 f9 (μ20 1 v19.toNatClampNeg) ((1 : Int64) <<< (v18.toInt64 &&& 63)) v17 (1 : Int32) (fun (r24 : Int64) => vp_in r22 (ml 4) ∧ (wpl_X11_turn_35 f9 n8 v18 v19 K76 n (v17 + (1 : Int32)) (tms μ20 4 r22.toNatClampNeg (r24.toInt32))))))))
def wpl_X11_turn_22 (f9 : Nat → Int64) (n8 : Nat) (v12 : Int32) (K82 : TMem → Prop) : Nat → Int32 → TMem → Prop
  | 0, _, _ => False
  | n + 1, v11, μ13 =>
    vp_in v12 (ml 1) ∧ (((μ13 1 v12.toNatClampNeg) ≤ v11 → (K82 μ13)) ∧ (¬ (μ13 1 v12.toNatClampNeg) ≤ v11 → (∃ n15x, wpl_X11_turn_35 f9 n8 v11 v12 (fun (μ27 : TMem) => wpl_X11_turn_22 f9 n8 v12 K82 n (v11 + (1 : Int32)) μ27) n15x (0 : Int32) μ13)))
def wp_X11_turn (μ : TMem) (a1 : Int32) (Q : Int32 → TMem → Prop) : Prop :=
  wp_X11_isOne a1 (fun (r1 : Int32) => wp_X11_isThrown μ r1 (1 : Int32) (fun (r3 : Int32) (μ2 : TMem) => (r3 = 0 → (wp_X11_arrowsAll μ2 a1 (fun (n8 : Nat) (f9 : Nat → Int64) => ∃ n9x, wpl_X11_turn_22 f9 n8 a1 (fun (μ29 : TMem) => vp_in a1 (ml 2) ∧ (vp_in a1 (ml 3) ∧ (vp_in a1 (ml 2) ∧ (vp_in a1 (ml 3) ∧ (wp_X11_arrowsOf (tms (tms μ29 2 a1.toNatClampNeg (μ29 3 a1.toNatClampNeg)) 3 a1.toNatClampNeg (μ29 2 a1.toNatClampNeg)) a1 (fun (r36 : Int32) => wp_X11_did (tms (tms μ29 2 a1.toNatClampNeg (μ29 3 a1.toNatClampNeg)) 3 a1.toNatClampNeg (μ29 2 a1.toNatClampNeg)) r36 (fun (r38 : Int32) (μ37 : TMem) => Q r38 μ37))))))) n9x (0 : Int32) μ2))) ∧ (¬ r3 = 0 → (Q (0 : Int32) μ2))))
set_option maxHeartbeats 4000000 in
set_option maxRecDepth 100000 in
theorem c_X11_turn {l : Launch} {D : va_G} {ad : Nat → Nat} {cI cL : ClassId}  (μ : TMem) (sz : Nat) (a1 : Int32)  {Q : Int32 → TMem → Prop} (h : wp_X11_turn μ a1 Q) : MMi l yX11_turn (.code yX11_turn cX11_turn 5 (Option.some Jvm.ClassFile.FieldType.int)) 2 1 21 [.ref (ad 0), .int a1] D ad cI cL sz μ [] Q := by
  refine M_meti (by decide +kernel) (Nat.le_of_ble_eq_true rfl) ?_
  intro p e s m below meth c Z ls hx hb hml hown ht hK hP0 hI hne hw hret hl
  have hl : lv_has ls 5 [(0, .ref (ad 0)), (1, .int a1)] := hl
  suffices hh : ∀ (H : Heap) (locs : List Loc), MW D (MR ad cI μ) [] (MA ad s.heap.size) s H locs → W p l e (RA 2 1 21) s m #[.ref (ad 0), .int a1] below meth c H locs 0 0 Z (F0 m 0 ls []) from hh _ _ hw
  intro H locs hw
  change wp_X11_isOne a1 (fun (r1 : Int32) => wp_X11_isThrown μ r1 (1 : Int32) (fun (r3 : Int32) (μ2 : TMem) => (r3 = 0 → (wp_X11_arrowsAll μ2 a1 (fun (n8 : Nat) (f9 : Nat → Int64) => ∃ n9x, wpl_X11_turn_22 f9 n8 a1 (fun (μ29 : TMem) => vp_in a1 (ml 2) ∧ (vp_in a1 (ml 3) ∧ (vp_in a1 (ml 2) ∧ (vp_in a1 (ml 3) ∧ (wp_X11_arrowsOf (tms (tms μ29 2 a1.toNatClampNeg (μ29 3 a1.toNatClampNeg)) 3 a1.toNatClampNeg (μ29 2 a1.toNatClampNeg)) a1 (fun (r36 : Int32) => wp_X11_did (tms (tms μ29 2 a1.toNatClampNeg (μ29 3 a1.toNatClampNeg)) 3 a1.toNatClampNeg (μ29 2 a1.toNatClampNeg)) r36 (fun (r38 : Int32) (μ37 : TMem) => Q r38 μ37))))))) n9x (0 : Int32) μ2))) ∧ (¬ r3 = 0 → (Q (0 : Int32) μ2)))) at h
  refine lv_aload_n hx hb dX11_turn_0 rfl (lv_at hl 0 rfl) ?_
  refine lv_iload_n hx hb dX11_turn_1 rfl (lv_at hl 1 rfl) ?_
  refine P_calli (va_runS (own := "LeastreaderModel") (As := [.int a1]) (rest := [.ref (ad 0)]) ⟨hx, hb, hml, hown, ht⟩ (c_X11_isOne a1 h) (va_cwS 1 ht (G_S q_1346 q_1347 q_56 q_1348) rfl rfl rfl hd_91 ⟨Nat.le_of_ble_eq_true rfl, Nat.le_of_ble_eq_true rfl⟩) ⟨PM_blind, PM_pre⟩ rfl rfl hl.1 rfl (lv_room (Nat.le_of_ble_eq_true rfl)) dX11_turn_2 ⟨show 0 + 0 ≤ 1 by omega, show 0 + 0 ≤ 21 by omega⟩) (fun r1 h => ?_)
  refine lv_iconst (v := (1 : Int32)) hx hb dX11_turn_5 (by decide) ?_
  refine M_calli hw (MA.up hw.2.2.1.1) (va_runV (own := "LeastreaderModel") (As := [.int r1, .int (1 : Int32)]) (rest := []) ⟨hx, hb, hml, hown, ht⟩ (c_X11_isThrown μ H.size r1 (1 : Int32) h) (cwV 2 ht (G_V q_1352 q_1354 q_26 q_56 q_1355) rfl rfl rfl ⟨rfl, hd_92⟩ ⟨Nat.le_of_ble_eq_true rfl, Nat.le_of_ble_eq_true rfl⟩) ⟨MB.blind, M_recv hK hw, MB.pre hK hI hw va_P0 ne0⟩ rfl rfl hl.1 rfl (lv_room (Nat.le_of_ble_eq_true rfl)) dX11_turn_6 ⟨show 0 + 0 ≤ 1 by omega, show 0 + 0 ≤ 21 by omega⟩) (fun r3 μ2 H locs h hw => ?_)
  refine lv_if_eq (tgt := 14) hx hb dX11_turn_9 (by decide) (fun c4 => ?_) (fun c4 => ?_)
  · have h := h.1 c4
    refine lv_aload_n hx hb dX11_turn_14 rfl (lv_at hl 0 rfl) ?_
    refine lv_iload_n hx hb dX11_turn_15 rfl (lv_at hl 1 rfl) ?_
    refine M_callL hw (MA.up hw.2.2.1.1) (va_runV (own := "LeastreaderModel") (As := [.int a1]) (rest := []) ⟨hx, hb, hml, hown, ht⟩ (c_X11_arrowsAll μ2 H.size a1 h) (cwV 1 ht (G_V q_1417 q_1419 q_33 q_56 q_1420) rfl rfl rfl ⟨rfl, hd_82⟩ ⟨Nat.le_of_ble_eq_true rfl, Nat.le_of_ble_eq_true rfl⟩) ⟨MB.blind, M_recv hK hw, MB.pre hK hI hw va_P0 ne0⟩ rfl rfl hl.1 rfl (lv_room (Nat.le_of_ble_eq_true rfl)) dX11_turn_16 ⟨show 0 + 1 ≤ 1 by omega, show 0 + 21 ≤ 21 by omega⟩) (fun q7 n8 f9 μ5 H locs hq7 h hw => ?_)
    obtain ⟨e6, h⟩ := h
    rw [e6] at hw
    have hw : MW D (MR ad cI μ2) [eL cL q7 n8 f9] (MA ad s.heap.size) s H locs := hw
    refine lv_astore_n (lv' := [(2, .ref q7), (0, .ref (ad 0)), (1, .int a1)]) hx hb dX11_turn_19 rfl hl (by decide) rfl (fun ls hl => ?_)
    refine lv_iconst (v := (0 : Int32)) hx hb dX11_turn_20 (by decide) ?_
    refine lv_istore_n (lv' := [(3, .int (0 : Int32)), (2, .ref q7), (0, .ref (ad 0)), (1, .int a1)]) hx hb dX11_turn_21 rfl hl (by decide) rfl (fun ls hl => ?_)
    obtain ⟨n28, h⟩ := h
    have L9 : ∀ (v12 : Int32) (K82 : TMem → Prop), (∀ (μ13 : TMem), ∀ (H : Heap) (locs : List Loc) (ls : Array Slot), MW D (MR ad cI μ13) [] (MA ad s.heap.size) s H locs → lv_has ls 5 [(0, .ref (ad 0)), (1, .int v12)] → K82 μ13 → W p l e (RA 2 1 21) s m #[.ref (ad 0), .int a1] below meth c H locs 1 21 Z (F0 m 82 ls [])) → ∀ (n : Nat), ∀ (v11 : Int32) (μ13 : TMem), ∀ (H : Heap) (locs : List Loc) (ls : Array Slot), MW D (MR ad cI μ13) [eL cL q7 n8 f9] (MA ad s.heap.size) s H locs → lv_has ls 5 [(3, .int v11), (2, .ref q7), (0, .ref (ad 0)), (1, .int v12)] → wpl_X11_turn_22 f9 n8 v12 K82 n v11 μ13 → W p l e (RA 2 1 21) s m #[.ref (ad 0), .int a1] below meth c H locs 1 21 Z (F0 m 22 ls []) := by
      intro v12 K82 hK82
      intro n
      induction n with
      | zero => intro v11 μ13 H locs ls hw hl h; exact False.elim h
      | succ n ih9 =>
        intro v11 μ13 H locs ls hw hl h
        change vp_in v12 (ml 1) ∧ (((μ13 1 v12.toNatClampNeg) ≤ v11 → (K82 μ13)) ∧ (¬ (μ13 1 v12.toNatClampNeg) ≤ v11 → (∃ n15x, wpl_X11_turn_35 f9 n8 v11 v12 (fun (μ27 : TMem) => wpl_X11_turn_22 f9 n8 v12 K82 n (v11 + (1 : Int32)) μ27) n15x (0 : Int32) μ13))) at h
        refine lv_iload_n hx hb dX11_turn_22 rfl (lv_at hl 0 rfl) ?_
        refine lv_aload_n hx hb dX11_turn_23 rfl (lv_at hl 2 rfl) ?_
        refine m_get (i := 0) hx hb ht hown hK hw (by decide) (ht _ q_1313) rfl rfl dX11_turn_24 ?_
        refine lv_iload_n hx hb dX11_turn_27 rfl (lv_at hl 3 rfl) ?_
        obtain ⟨z14, h⟩ := h
        refine m_iald hx hb hK hw (by decide) z14 dX11_turn_28 ?_
        refine lv_icmp_ge (tgt := 82) hx hb dX11_turn_29 (by decide) (fun c15 => ?_) (fun c15 => ?_)
        · have h := h.1 c15
          exact hK82 μ13 H locs ls (hw.sub [] (by decide) rfl) (lv_sub hl [2, 3] rfl) h
        have h := h.2 c15
        refine lv_iconst (v := (0 : Int32)) hx hb dX11_turn_32 (by decide) ?_
        refine lv_istore (lv' := [(4, .int (0 : Int32)), (3, .int v11), (2, .ref q7), (0, .ref (ad 0)), (1, .int v12)]) hx hb dX11_turn_33 hl (by decide) rfl (fun ls hl => ?_)
        obtain ⟨n26, h⟩ := h
        have L15 : ∀ (v18 : Int32) (v19 : Int32) (K76 : TMem → Prop), (∀ (μ20 : TMem), ∀ (H : Heap) (locs : List Loc) (ls : Array Slot), MW D (MR ad cI μ20) [eL cL q7 n8 f9] (MA ad s.heap.size) s H locs → lv_has ls 5 [(3, .int v18), (2, .ref q7), (0, .ref (ad 0)), (1, .int v19)] → K76 μ20 → W p l e (RA 2 1 21) s m #[.ref (ad 0), .int a1] below meth c H locs 1 21 Z (F0 m 76 ls [])) → ∀ (n : Nat), ∀ (v17 : Int32) (μ20 : TMem), ∀ (H : Heap) (locs : List Loc) (ls : Array Slot), MW D (MR ad cI μ20) [eL cL q7 n8 f9] (MA ad s.heap.size) s H locs → lv_has ls 5 [(4, .int v17), (3, .int v18), (2, .ref q7), (0, .ref (ad 0)), (1, .int v19)] → wpl_X11_turn_35 f9 n8 v18 v19 K76 n v17 μ20 → W p l e (RA 2 1 21) s m #[.ref (ad 0), .int a1] below meth c H locs 1 21 Z (F0 m 35 ls []) := by
          intro v18 v19 K76 hK76
          intro n
          induction n with
          | zero => intro v17 μ20 H locs ls hw hl h; exact False.elim h
          | succ n ih15 =>
            intro v17 μ20 H locs ls hw hl h
            change ((3 : Int32) ≤ v17 → (K76 μ20)) ∧ (¬ (3 : Int32) ≤ v17 → (wp_X11_key v19 v18 v17 (fun (r22 : Int32) => vp_in v19 (ml 1) ∧ (wp_X11_next n8 f9 (μ20 1 v19.toNatClampNeg) ((1 : Int64) <<< (v18.toInt64 &&& 63)) v17 (1 : Int32) (fun (r24 : Int64) => vp_in r22 (ml 4) ∧ (wpl_X11_turn_35 f9 n8 v18 v19 K76 n (v17 + (1 : Int32)) (tms μ20 4 r22.toNatClampNeg (r24.toInt32)))))))) at h
            refine lv_iload hx hb dX11_turn_35 (lv_at hl 0 rfl) ?_
            refine lv_iconst (v := (3 : Int32)) hx hb dX11_turn_37 (by decide) ?_
            refine lv_icmp_ge (tgt := 76) hx hb dX11_turn_38 (by decide) (fun c21 => ?_) (fun c21 => ?_)
            · have h := h.1 c21
              exact hK76 μ20 H locs ls hw (lv_sub hl [1, 2, 3, 4] rfl) h
            have h := h.2 c21
            refine lv_aload_n hx hb dX11_turn_41 rfl (lv_at hl 3 rfl) ?_
            refine m_get (i := 3) hx hb ht hown hK hw (by decide) (ht _ q_1316) rfl rfl dX11_turn_42 ?_
            refine lv_iload_n hx hb dX11_turn_45 rfl (lv_at hl 4 rfl) ?_
            refine lv_iload_n hx hb dX11_turn_46 rfl (lv_at hl 1 rfl) ?_
            refine lv_iload hx hb dX11_turn_47 (lv_at hl 0 rfl) ?_
            refine P_calli (va_runS (own := "LeastreaderModel") (As := [.int v19, .int v18, .int v17]) (rest := [.ref (ad 4)]) ⟨hx, hb, hml, hown, ht⟩ (c_X11_key v19 v18 v17 h) (va_cwS 3 ht (G_S q_1360 q_1361 q_56 q_1362) rfl rfl rfl hd_79 ⟨Nat.le_of_ble_eq_true rfl, Nat.le_of_ble_eq_true rfl⟩) ⟨PM_blind, PM_pre⟩ rfl rfl hl.1 rfl (lv_room (Nat.le_of_ble_eq_true rfl)) dX11_turn_49 ⟨show 1 + 0 ≤ 1 by omega, show 21 + 0 ≤ 21 by omega⟩) (fun r22 h => ?_)
            refine lv_aload_n hx hb dX11_turn_52 rfl (lv_at hl 2 rfl) ?_
            refine lv_aload_n hx hb dX11_turn_53 rfl (lv_at hl 3 rfl) ?_
            refine m_get (i := 0) hx hb ht hown hK hw (by decide) (ht _ q_1313) rfl rfl dX11_turn_54 ?_
            refine lv_iload_n hx hb dX11_turn_57 rfl (lv_at hl 4 rfl) ?_
            obtain ⟨z23, h⟩ := h
            refine m_iald hx hb hK hw (by decide) z23 dX11_turn_58 ?_
            refine lv_lconst (v := (1 : Int64)) hx hb dX11_turn_59 (by decide) ?_
            refine lv_iload_n hx hb dX11_turn_60 rfl (lv_at hl 1 rfl) ?_
            refine lv_lshl hx hb dX11_turn_61 rfl ?_
            refine lv_iload hx hb dX11_turn_62 (lv_at hl 0 rfl) ?_
            refine lv_iconst (v := (1 : Int32)) hx hb dX11_turn_64 (by decide) ?_
            refine S_calll hw (va_runS (own := "LeastreaderModel") (As := [.ref q7, .int (μ20 1 v19.toNatClampNeg), .long ((1 : Int64) <<< (v18.toInt64 &&& 63)), .int v17, .int (1 : Int32)]) (rest := [.int r22, .ref (ad 4)]) ⟨hx, hb, hml, hown, ht⟩ (c_X11_next q7 H.size n8 f9 (μ20 1 v19.toNatClampNeg) ((1 : Int64) <<< (v18.toInt64 &&& 63)) v17 (1 : Int32) h) (va_cwS 5 ht (G_S q_1421 q_1422 q_56 q_1423) rfl rfl rfl hd_80 ⟨Nat.le_of_ble_eq_true rfl, Nat.le_of_ble_eq_true rfl⟩) ⟨SB.blind, SB.pre hK (va_Pc2 (hw.n (j := 0) rfl) va_P0)⟩ rfl rfl hl.1 rfl (lv_room (Nat.le_of_ble_eq_true rfl)) dX11_turn_65 ⟨show 1 + 0 ≤ 1 by omega, show 21 + 0 ≤ 21 by omega⟩) (fun r24 H locs h hw => ?_)
            refine lv_l2i hx hb dX11_turn_68 rfl ?_
            obtain ⟨z25, h⟩ := h
            refine m_iast hx hb hK hw (by decide) z25 dX11_turn_69 (fun H locs hw => ?_)
            refine lv_iinc (v := (v17 + (1 : Int32))) (lv' := [(4, .int (v17 + (1 : Int32))), (3, .int v18), (2, .ref q7), (0, .ref (ad 0)), (1, .int v19)]) hx hb dX11_turn_70 hl (k := 0) rfl rfl (by decide) rfl (fun ls hl => ?_)
            refine lv_goto (tgt := 35) hx hb dX11_turn_73 (by decide) ?_
            exact ih15 (v17 + (1 : Int32)) (tms μ20 4 r22.toNatClampNeg (r24.toInt32)) H locs ls hw (lv_sub hl [0, 1, 2, 3, 4] rfl) h
        refine L15 v11 v12 _ ?_ n26 (0 : Int32) μ13 H locs ls hw (lv_sub hl [0, 1, 2, 3, 4] rfl) h
        intro μ27 H locs ls hw hl h
        refine lv_iinc (v := (v11 + (1 : Int32))) (lv' := [(3, .int (v11 + (1 : Int32))), (2, .ref q7), (0, .ref (ad 0)), (1, .int v12)]) hx hb dX11_turn_76 hl (k := 0) rfl rfl (by decide) rfl (fun ls hl => ?_)
        refine lv_goto (tgt := 22) hx hb dX11_turn_79 (by decide) ?_
        exact ih9 (v11 + (1 : Int32)) μ27 H locs ls hw (lv_sub hl [0, 1, 2, 3] rfl) h
    refine L9 a1 _ ?_ n28 (0 : Int32) μ2 H locs ls hw (lv_sub hl [0, 1, 2, 3] rfl) h
    intro μ29 H locs ls hw hl h
    refine lv_aload_n hx hb dX11_turn_82 rfl (lv_at hl 0 rfl) ?_
    refine m_get (i := 1) hx hb ht hown hK hw (by decide) (ht _ q_1314) rfl rfl dX11_turn_83 ?_
    refine lv_iload_n hx hb dX11_turn_86 rfl (lv_at hl 1 rfl) ?_
    obtain ⟨z30, h⟩ := h
    refine m_iald hx hb hK hw (by decide) z30 dX11_turn_87 ?_
    refine lv_istore_n (lv' := [(3, .int (μ29 2 a1.toNatClampNeg)), (0, .ref (ad 0)), (1, .int a1)]) hx hb dX11_turn_88 rfl hl (by decide) rfl (fun ls hl => ?_)
    refine lv_aload_n hx hb dX11_turn_89 rfl (lv_at hl 1 rfl) ?_
    refine m_get (i := 1) hx hb ht hown hK hw (by decide) (ht _ q_1314) rfl rfl dX11_turn_90 ?_
    refine lv_iload_n hx hb dX11_turn_93 rfl (lv_at hl 2 rfl) ?_
    refine lv_aload_n hx hb dX11_turn_94 rfl (lv_at hl 1 rfl) ?_
    refine m_get (i := 2) hx hb ht hown hK hw (by decide) (ht _ q_1315) rfl rfl dX11_turn_95 ?_
    refine lv_iload_n hx hb dX11_turn_98 rfl (lv_at hl 2 rfl) ?_
    obtain ⟨z31, h⟩ := h
    refine m_iald hx hb hK hw (by decide) z31 dX11_turn_99 ?_
    obtain ⟨z32, h⟩ := h
    refine m_iast hx hb hK hw (by decide) z32 dX11_turn_100 (fun H locs hw => ?_)
    refine lv_aload_n hx hb dX11_turn_101 rfl (lv_at hl 1 rfl) ?_
    refine m_get (i := 2) hx hb ht hown hK hw (by decide) (ht _ q_1315) rfl rfl dX11_turn_102 ?_
    refine lv_iload_n hx hb dX11_turn_105 rfl (lv_at hl 2 rfl) ?_
    refine lv_iload_n hx hb dX11_turn_106 rfl (lv_at hl 0 rfl) ?_
    obtain ⟨z33, h⟩ := h
    refine m_iast hx hb hK hw (by decide) z33 dX11_turn_107 (fun H locs hw => ?_)
    refine lv_aload_n hx hb dX11_turn_108 rfl (lv_at hl 1 rfl) ?_
    refine lv_aload_n hx hb dX11_turn_109 rfl (lv_at hl 1 rfl) ?_
    refine lv_iload_n hx hb dX11_turn_110 rfl (lv_at hl 2 rfl) ?_
    refine M_calli hw (MA.up hw.2.2.1.1) (va_runV (own := "LeastreaderModel") (As := [.int a1]) (rest := [.ref (ad 0)]) ⟨hx, hb, hml, hown, ht⟩ (c_X11_arrowsOf (tms (tms μ29 2 a1.toNatClampNeg (μ29 3 a1.toNatClampNeg)) 3 a1.toNatClampNeg (μ29 2 a1.toNatClampNeg)) H.size a1 h) (cwV 1 ht (G_V q_1356 q_1358 q_27 q_56 q_1359) rfl rfl rfl ⟨rfl, hd_93⟩ ⟨Nat.le_of_ble_eq_true rfl, Nat.le_of_ble_eq_true rfl⟩) ⟨MB.blind, M_recv hK hw, MB.pre hK hI hw va_P0 ne0⟩ rfl rfl hl.1 rfl (lv_room (Nat.le_of_ble_eq_true rfl)) dX11_turn_111 ⟨show 1 + 0 ≤ 1 by omega, show 21 + 0 ≤ 21 by omega⟩) (fun r36 μ34 H locs h hw => ?_)
    obtain ⟨e35, h⟩ := h
    rw [e35] at hw
    refine M_calli hw (MA.up hw.2.2.1.1) (va_runV (own := "LeastreaderModel") (As := [.int r36]) (rest := []) ⟨hx, hb, hml, hown, ht⟩ (c_X11_did (tms (tms μ29 2 a1.toNatClampNeg (μ29 3 a1.toNatClampNeg)) 3 a1.toNatClampNeg (μ29 2 a1.toNatClampNeg)) H.size r36 h) (cwV 1 ht (G_V q_1368 q_1370 q_29 q_56 q_1371) rfl rfl rfl ⟨rfl, hd_95⟩ ⟨Nat.le_of_ble_eq_true rfl, Nat.le_of_ble_eq_true rfl⟩) ⟨MB.blind, M_recv hK hw, MB.pre hK hI hw va_P0 ne0⟩ rfl rfl hl.1 rfl (lv_room (Nat.le_of_ble_eq_true rfl)) dX11_turn_114 ⟨show 1 + 0 ≤ 1 by omega, show 21 + 0 ≤ 21 by omega⟩) (fun r38 μ37 H locs h hw => ?_)
    exact hret H locs ls 117 _ _ _ _ _ hw h rfl (show 1 ≤ 1 by omega) (show 21 ≤ 21 by omega) dX11_turn_117
  have h := h.2 c4
  refine lv_iconst (v := (0 : Int32)) hx hb dX11_turn_12 (by decide) ?_
  exact hret H locs ls 13 _ _ _ _ _ hw h rfl (show 0 ≤ 1 by omega) (show 0 ≤ 21 by omega) dX11_turn_13
