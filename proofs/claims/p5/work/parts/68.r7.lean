def wpl_X11_sow_79 (v28 : Int32) (v29 : Int32) (v31 : Int32) (v32 : Int32) (v33 : Int32) (K178 : Int32 → TMem → Prop) : Nat → Int32 → Int32 → TMem → Prop
  | 0, _, _, _ => False
  | n + 1, v27, v30, μ34 =>
    ∀ J35 : Int32 → Prop, (∀ (j36 : Int32), ((j36 ≤ v27 → (K178 v30 μ34)) ∧ (¬ j36 ≤ v27 → ((¬ v33 = 0 → (¬ (v33 + (1 : Int32)) = 0 ∧ ((¬ (((((v30 * (25173 : Int32)) + (13849 : Int32)) - ((v30 * (25173 : Int32)) + (13849 : Int32)) / (65536 : Int32) * (65536 : Int32)) / (64 : Int32)) - ((((v30 * (25173 : Int32)) + (13849 : Int32)) - ((v30 * (25173 : Int32)) + (13849 : Int32)) / (65536 : Int32) * (65536 : Int32)) / (64 : Int32)) / (v33 + (1 : Int32)) * (v33 + (1 : Int32))) = 0 → (wpl_X11_sow_79 v28 v29 v31 v32 v33 K178 n (v27 + (1 : Int32)) (((v30 * (25173 : Int32)) + (13849 : Int32)) - ((v30 * (25173 : Int32)) + (13849 : Int32)) / (65536 : Int32) * (65536 : Int32)) μ34)) ∧ ((((((v30 * (25173 : Int32)) + (13849 : Int32)) - ((v30 * (25173 : Int32)) + (13849 : Int32)) / (65536 : Int32) * (65536 : Int32)) / (64 : Int32)) - ((((v30 * (25173 : Int32)) + (13849 : Int32)) - ((v30 * (25173 : Int32)) + (13849 : Int32)) / (65536 : Int32) * (65536 : Int32)) / (64 : Int32)) / (v33 + (1 : Int32)) * (v33 + (1 : Int32))) = 0 → (wp_X11_key v31 v29 v28 (fun (r41 : Int32) => vp_in r41 (ml 4) ∧ (vp_in r41 (ml 4) ∧ (wpl_X11_sow_79 v28 v29 v31 v32 v33 K178 n (v27 + (1 : Int32)) (((v30 * (25173 : Int32)) + (13849 : Int32)) - ((v30 * (25173 : Int32)) + (13849 : Int32)) / (65536 : Int32) * (65536 : Int32)) (tms μ34 4 r41.toNatClampNeg ((μ34 4 r41.toNatClampNeg) ||| ((1 : Int32) <<< (v27 &&& 31)))))))))))) ∧ (v33 = 0 → (wp_X11_key v31 v29 v28 (fun (r44 : Int32) => ¬ v32 = 0 ∧ (vp_in r44 (ml 4) ∧ (wpl_X11_sow_79 v28 v29 v31 v32 v33 K178 n (v27 + (1 : Int32)) (((v30 * (25173 : Int32)) + (13849 : Int32)) - ((v30 * (25173 : Int32)) + (13849 : Int32)) / (65536 : Int32) * (65536 : Int32)) (tms μ34 4 r44.toNatClampNeg ((1 : Int32) <<< ((((((v30 * (25173 : Int32)) + (13849 : Int32)) - ((v30 * (25173 : Int32)) + (13849 : Int32)) / (65536 : Int32) * (65536 : Int32)) / (64 : Int32)) - ((((v30 * (25173 : Int32)) + (13849 : Int32)) - ((v30 * (25173 : Int32)) + (13849 : Int32)) / (65536 : Int32) * (65536 : Int32)) / (64 : Int32)) / v32 * v32) &&& 31))))))))))) → J35 j36) → ((¬ v33 = 0 → (J35 v32)) ∧ (v33 = 0 → (J35 (1 : Int32))))
def wpl_X11_sow_70 (v19 : Int32) (v21 : Int32) (v22 : Int32) (v23 : Int32) (K184 : Int32 → TMem → Prop) : Nat → Int32 → Int32 → TMem → Prop
  | 0, _, _, _ => False
  | n + 1, v18, v20, μ24 =>
    ((3 : Int32) ≤ v18 → (K184 v20 μ24)) ∧ (¬ (3 : Int32) ≤ v18 → (∃ n25x, wpl_X11_sow_79 v18 v19 v21 v22 v23 (fun (u49 : Int32) (μ50 : TMem) => wpl_X11_sow_70 v19 v21 v22 v23 K184 n (v18 + (1 : Int32)) u49 μ50) n25x (0 : Int32) v20 μ24))
def wpl_X11_sow_61 (v12 : Int32) (v13 : Int32) (v14 : Int32) (K190 : Int32 → TMem → Prop) : Nat → Int32 → Int32 → TMem → Prop
  | 0, _, _, _ => False
  | n + 1, v10, v11, μ15 =>
    (v13 ≤ v10 → (K190 v11 μ15)) ∧ (¬ v13 ≤ v10 → (∃ n16x, wpl_X11_sow_70 v10 v12 v13 v14 (fun (u52 : Int32) (μ53 : TMem) => wpl_X11_sow_61 v12 v13 v14 K190 n (v10 + (1 : Int32)) u52 μ53) n16x (0 : Int32) v11 μ15))
def wpl_X11_sow_193 (v60 : Int32) (v61 : Int32) (K243 : TMem → Prop) : Nat → Int32 → Int32 → TMem → Prop
  | 0, _, _, _ => False
  | n + 1, v58, v59, μ62 =>
    (v61 ≤ v58 → (K243 μ62)) ∧ (¬ v61 ≤ v58 → ((¬ (((((v59 * (25173 : Int32)) + (13849 : Int32)) - ((v59 * (25173 : Int32)) + (13849 : Int32)) / (65536 : Int32) * (65536 : Int32)) / (64 : Int32)) - ((((v59 * (25173 : Int32)) + (13849 : Int32)) - ((v59 * (25173 : Int32)) + (13849 : Int32)) / (65536 : Int32) * (65536 : Int32)) / (64 : Int32)) / (2 : Int32) * (2 : Int32)) = 0 → (wpl_X11_sow_193 v60 v61 K243 n (v58 + (1 : Int32)) (((v59 * (25173 : Int32)) + (13849 : Int32)) - ((v59 * (25173 : Int32)) + (13849 : Int32)) / (65536 : Int32) * (65536 : Int32)) μ62)) ∧ ((((((v59 * (25173 : Int32)) + (13849 : Int32)) - ((v59 * (25173 : Int32)) + (13849 : Int32)) / (65536 : Int32) * (65536 : Int32)) / (64 : Int32)) - ((((v59 * (25173 : Int32)) + (13849 : Int32)) - ((v59 * (25173 : Int32)) + (13849 : Int32)) / (65536 : Int32) * (65536 : Int32)) / (64 : Int32)) / (2 : Int32) * (2 : Int32)) = 0 → (vp_in v60 (ml 3) ∧ (vp_in v60 (ml 3) ∧ (wpl_X11_sow_193 v60 v61 K243 n (v58 + (1 : Int32)) (((v59 * (25173 : Int32)) + (13849 : Int32)) - ((v59 * (25173 : Int32)) + (13849 : Int32)) / (65536 : Int32) * (65536 : Int32)) (tms μ62 3 v60.toNatClampNeg ((μ62 3 v60.toNatClampNeg) ||| ((1 : Int32) <<< (v58 &&& 31))))))))))
def wp_X11_sow (μ : TMem) (a1 : Int32) (a2 : Int32) (a3 : Int32) (a4 : Int32) (Q : Int32 → TMem → Prop) : Prop :=
  wp_X11_isOne a1 (fun (r1 : Int32) => wp_X11_isIn a2 (0 : Int32) (65535 : Int32) (fun (r2 : Int32) => ∀ J3 : Int32 → Prop, (∀ (j4 : Int32), (wp_X11_isThrown μ r1 j4 (fun (r6 : Int32) (μ5 : TMem) => (r6 = 0 → (wp_X11_clear μ5 a1 a3 (fun (μ8 : TMem) => ∃ n8x, wpl_X11_sow_61 a1 a3 a4 (fun (u55 : Int32) (μ56 : TMem) => ∃ n56x, wpl_X11_sow_193 a1 a3 (fun (μ68 : TMem) => wp_X11_arrowsOf μ68 a1 (fun (r71 : Int32) => wp_X11_did μ68 r71 (fun (r73 : Int32) (μ72 : TMem) => Q r73 μ72))) n56x (0 : Int32) u55 μ56) n8x (0 : Int32) a2 μ8))) ∧ (¬ r6 = 0 → (Q (0 : Int32) μ5)))) → J3 j4) → ((r2 = 0 → (J3 (0 : Int32))) ∧ (¬ r2 = 0 → (wp_X11_isIn a3 (1 : Int32) (7 : Int32) (fun (r75 : Int32) => (r75 = 0 → (J3 (0 : Int32))) ∧ (¬ r75 = 0 → (wp_X11_isIn a4 (0 : Int32) (6 : Int32) (fun (r77 : Int32) => (r77 = 0 → (J3 (0 : Int32))) ∧ (¬ r77 = 0 → (J3 (1 : Int32))))))))))))
set_option maxHeartbeats 4000000 in
set_option maxRecDepth 100000 in
theorem c_X11_sow {l : Launch} {D : va_G} {ad : Nat → Nat} {cI cL : ClassId}  (μ : TMem) (sz : Nat) (a1 : Int32) (a2 : Int32) (a3 : Int32) (a4 : Int32)  {Q : Int32 → TMem → Prop} (h : wp_X11_sow μ a1 a2 a3 a4 Q) : MMi l yX11_sow (.code yX11_sow cX11_sow 9 (Option.some Jvm.ClassFile.FieldType.int)) 2 0 0 [.ref (ad 0), .int a1, .int a2, .int a3, .int a4] D ad cI cL sz μ [] Q := by
  refine M_meti (by decide +kernel) (Nat.le_of_ble_eq_true rfl) ?_
  intro p e s m below meth c Z ls hx hb hml hown ht hK hP0 hI hne hw hret hl
  have hl : lv_has ls 9 [(0, .ref (ad 0)), (1, .int a1), (2, .int a2), (3, .int a3), (4, .int a4)] := hl
  suffices hh : ∀ (H : Heap) (locs : List Loc), MW D (MR ad cI μ) [] (MA ad s.heap.size) s H locs → W p l e (RA 2 0 0) s m #[.ref (ad 0), .int a1, .int a2, .int a3, .int a4] below meth c H locs 0 0 Z (F0 m 0 ls []) from hh _ _ hw
  intro H locs hw
  change wp_X11_isOne a1 (fun (r1 : Int32) => wp_X11_isIn a2 (0 : Int32) (65535 : Int32) (fun (r2 : Int32) => ∀ J3 : Int32 → Prop, (∀ (j4 : Int32), (wp_X11_isThrown μ r1 j4 (fun (r6 : Int32) (μ5 : TMem) => (r6 = 0 → (wp_X11_clear μ5 a1 a3 (fun (μ8 : TMem) => ∃ n8x, wpl_X11_sow_61 a1 a3 a4 (fun (u55 : Int32) (μ56 : TMem) => ∃ n56x, wpl_X11_sow_193 a1 a3 (fun (μ68 : TMem) => wp_X11_arrowsOf μ68 a1 (fun (r71 : Int32) => wp_X11_did μ68 r71 (fun (r73 : Int32) (μ72 : TMem) => Q r73 μ72))) n56x (0 : Int32) u55 μ56) n8x (0 : Int32) a2 μ8))) ∧ (¬ r6 = 0 → (Q (0 : Int32) μ5)))) → J3 j4) → ((r2 = 0 → (J3 (0 : Int32))) ∧ (¬ r2 = 0 → (wp_X11_isIn a3 (1 : Int32) (7 : Int32) (fun (r75 : Int32) => (r75 = 0 → (J3 (0 : Int32))) ∧ (¬ r75 = 0 → (wp_X11_isIn a4 (0 : Int32) (6 : Int32) (fun (r77 : Int32) => (r77 = 0 → (J3 (0 : Int32))) ∧ (¬ r77 = 0 → (J3 (1 : Int32)))))))))))) at h
  refine lv_aload_n hx hb dX11_sow_0 rfl (lv_at hl 0 rfl) ?_
  refine lv_iload_n hx hb dX11_sow_1 rfl (lv_at hl 1 rfl) ?_
  refine P_calli (va_runS (own := "LeastreaderModel") (As := [.int a1]) (rest := [.ref (ad 0)]) ⟨hx, hb, hml, hown, ht⟩ (c_X11_isOne a1 h) (va_cwS 1 ht (G_S q_1346 q_1347 q_56 q_1348) rfl rfl rfl hd_91 ⟨Nat.le_of_ble_eq_true rfl, Nat.le_of_ble_eq_true rfl⟩) ⟨PM_blind, PM_pre⟩ rfl rfl hl.1 rfl (lv_room (Nat.le_of_ble_eq_true rfl)) dX11_sow_2 ⟨show 0 + 0 ≤ 0 by omega, show 0 + 0 ≤ 0 by omega⟩) (fun r1 h => ?_)
  refine lv_iload_n hx hb dX11_sow_5 rfl (lv_at hl 2 rfl) ?_
  refine lv_iconst (v := (0 : Int32)) hx hb dX11_sow_6 (by decide) ?_
  refine lv_ldc (v := (65535 : Int32)) hx hb hown (ht _ q_1396) dX11_sow_7 ?_
  refine P_calli (va_runS (own := "LeastreaderModel") (As := [.int a2, .int (0 : Int32), .int (65535 : Int32)]) (rest := [.int r1, .ref (ad 0)]) ⟨hx, hb, hml, hown, ht⟩ (c_X11_isIn a2 (0 : Int32) (65535 : Int32) h) (va_cwS 3 ht (G_S q_1349 q_1350 q_56 q_1351) rfl rfl rfl hd_78 ⟨Nat.le_of_ble_eq_true rfl, Nat.le_of_ble_eq_true rfl⟩) ⟨PM_blind, PM_pre⟩ rfl rfl hl.1 rfl (lv_room (Nat.le_of_ble_eq_true rfl)) dX11_sow_9 ⟨show 0 + 0 ≤ 0 by omega, show 0 + 0 ≤ 0 by omega⟩) (fun r2 h => ?_)
  have h := h (fun (j4 : Int32) => ∀ (H : Heap) (locs : List Loc) (ls : Array Slot), MW D (MR ad cI μ) [] (MA ad s.heap.size) s H locs → lv_has ls 9 [(0, .ref (ad 0)), (1, .int a1), (2, .int a2), (3, .int a3), (4, .int a4)] → W p l e (RA 2 0 0) s m #[.ref (ad 0), .int a1, .int a2, .int a3, .int a4] below meth c H locs 0 0 Z (F0 m 41 ls [.int j4, .int r1, .ref (ad 0)])) (fun j4 h H locs ls hw hl => by
    refine M_calli hw (MA.up hw.2.2.1.1) (va_runV (own := "LeastreaderModel") (As := [.int r1, .int j4]) (rest := []) ⟨hx, hb, hml, hown, ht⟩ (c_X11_isThrown μ H.size r1 j4 h) (cwV 2 ht (G_V q_1352 q_1354 q_26 q_56 q_1355) rfl rfl rfl ⟨rfl, hd_92⟩ ⟨Nat.le_of_ble_eq_true rfl, Nat.le_of_ble_eq_true rfl⟩) ⟨MB.blind, M_recv hK hw, MB.pre hK hI hw va_P0 ne0⟩ rfl rfl hl.1 rfl (lv_room (Nat.le_of_ble_eq_true rfl)) dX11_sow_41 ⟨show 0 + 0 ≤ 0 by omega, show 0 + 0 ≤ 0 by omega⟩) (fun r6 μ5 H locs h hw => ?_)
    refine lv_if_eq (tgt := 49) hx hb dX11_sow_44 (by decide) (fun c7 => ?_) (fun c7 => ?_)
    · have h := h.1 c7
      refine lv_aload_n hx hb dX11_sow_49 rfl (lv_at hl 0 rfl) ?_
      refine lv_iload_n hx hb dX11_sow_50 rfl (lv_at hl 1 rfl) ?_
      refine lv_iload_n hx hb dX11_sow_51 rfl (lv_at hl 3 rfl) ?_
      refine M_callv hw (MA.up hw.2.2.1.1) (va_runV (own := "LeastreaderModel") (As := [.int a1, .int a3]) (rest := []) ⟨hx, hb, hml, hown, ht⟩ (c_X11_clear μ5 H.size a1 a3 h) (cwV 2 ht (G_V q_1364 q_1366 q_28 q_56 q_1367) rfl rfl rfl ⟨rfl, hd_94⟩ ⟨Nat.le_of_ble_eq_true rfl, Nat.le_of_ble_eq_true rfl⟩) ⟨MB.blind, M_recv hK hw, MB.pre hK hI hw va_P0 ne0⟩ rfl rfl hl.1 rfl (lv_room (Nat.le_of_ble_eq_true rfl)) dX11_sow_52 ⟨show 0 + 0 ≤ 0 by omega, show 0 + 0 ≤ 0 by omega⟩) (fun μ8 H locs h hw => ?_)
      refine lv_iload_n hx hb dX11_sow_55 rfl (lv_at hl 2 rfl) ?_
      refine lv_istore (lv' := [(5, .int a2), (0, .ref (ad 0)), (1, .int a1), (2, .int a2), (3, .int a3), (4, .int a4)]) hx hb dX11_sow_56 hl (by decide) rfl (fun ls hl => ?_)
      refine lv_iconst (v := (0 : Int32)) hx hb dX11_sow_58 (by decide) ?_
      refine lv_istore (lv' := [(6, .int (0 : Int32)), (5, .int a2), (0, .ref (ad 0)), (1, .int a1), (2, .int a2), (3, .int a3), (4, .int a4)]) hx hb dX11_sow_59 hl (by decide) rfl (fun ls hl => ?_)
      obtain ⟨n54, h⟩ := h
      have L8 : ∀ (v12 : Int32) (v13 : Int32) (v14 : Int32) (K190 : Int32 → TMem → Prop), (∀ (v11 : Int32) (μ15 : TMem), ∀ (H : Heap) (locs : List Loc) (ls : Array Slot), MW D (MR ad cI μ15) [] (MA ad s.heap.size) s H locs → lv_has ls 9 [(5, .int v11), (0, .ref (ad 0)), (1, .int v12), (3, .int v13)] → K190 v11 μ15 → W p l e (RA 2 0 0) s m #[.ref (ad 0), .int a1, .int a2, .int a3, .int a4] below meth c H locs 0 0 Z (F0 m 190 ls [])) → ∀ (n : Nat), ∀ (v10 : Int32) (v11 : Int32) (μ15 : TMem), ∀ (H : Heap) (locs : List Loc) (ls : Array Slot), MW D (MR ad cI μ15) [] (MA ad s.heap.size) s H locs → lv_has ls 9 [(6, .int v10), (5, .int v11), (0, .ref (ad 0)), (1, .int v12), (3, .int v13), (4, .int v14)] → wpl_X11_sow_61 v12 v13 v14 K190 n v10 v11 μ15 → W p l e (RA 2 0 0) s m #[.ref (ad 0), .int a1, .int a2, .int a3, .int a4] below meth c H locs 0 0 Z (F0 m 61 ls []) := by
        intro v12 v13 v14 K190 hK190
        intro n
        induction n with
        | zero => intro v10 v11 μ15 H locs ls hw hl h; exact False.elim h
        | succ n ih8 =>
          intro v10 v11 μ15 H locs ls hw hl h
          change (v13 ≤ v10 → (K190 v11 μ15)) ∧ (¬ v13 ≤ v10 → (∃ n16x, wpl_X11_sow_70 v10 v12 v13 v14 (fun (u52 : Int32) (μ53 : TMem) => wpl_X11_sow_61 v12 v13 v14 K190 n (v10 + (1 : Int32)) u52 μ53) n16x (0 : Int32) v11 μ15)) at h
          refine lv_iload hx hb dX11_sow_61 (lv_at hl 0 rfl) ?_
          refine lv_iload_n hx hb dX11_sow_63 rfl (lv_at hl 4 rfl) ?_
          refine lv_icmp_ge (tgt := 190) hx hb dX11_sow_64 (by decide) (fun c16 => ?_) (fun c16 => ?_)
          · have h := h.1 c16
            exact hK190 v11 μ15 H locs ls hw (lv_sub hl [1, 2, 3, 4] rfl) h
          have h := h.2 c16
          refine lv_iconst (v := (0 : Int32)) hx hb dX11_sow_67 (by decide) ?_
          refine lv_istore (lv' := [(7, .int (0 : Int32)), (6, .int v10), (5, .int v11), (0, .ref (ad 0)), (1, .int v12), (3, .int v13), (4, .int v14)]) hx hb dX11_sow_68 hl (by decide) rfl (fun ls hl => ?_)
          obtain ⟨n51, h⟩ := h
          have L16 : ∀ (v19 : Int32) (v21 : Int32) (v22 : Int32) (v23 : Int32) (K184 : Int32 → TMem → Prop), (∀ (v20 : Int32) (μ24 : TMem), ∀ (H : Heap) (locs : List Loc) (ls : Array Slot), MW D (MR ad cI μ24) [] (MA ad s.heap.size) s H locs → lv_has ls 9 [(6, .int v19), (5, .int v20), (0, .ref (ad 0)), (1, .int v21), (3, .int v22), (4, .int v23)] → K184 v20 μ24 → W p l e (RA 2 0 0) s m #[.ref (ad 0), .int a1, .int a2, .int a3, .int a4] below meth c H locs 0 0 Z (F0 m 184 ls [])) → ∀ (n : Nat), ∀ (v18 : Int32) (v20 : Int32) (μ24 : TMem), ∀ (H : Heap) (locs : List Loc) (ls : Array Slot), MW D (MR ad cI μ24) [] (MA ad s.heap.size) s H locs → lv_has ls 9 [(7, .int v18), (6, .int v19), (5, .int v20), (0, .ref (ad 0)), (1, .int v21), (3, .int v22), (4, .int v23)] → wpl_X11_sow_70 v19 v21 v22 v23 K184 n v18 v20 μ24 → W p l e (RA 2 0 0) s m #[.ref (ad 0), .int a1, .int a2, .int a3, .int a4] below meth c H locs 0 0 Z (F0 m 70 ls []) := by
            intro v19 v21 v22 v23 K184 hK184
            intro n
            induction n with
            | zero => intro v18 v20 μ24 H locs ls hw hl h; exact False.elim h
            | succ n ih16 =>
              intro v18 v20 μ24 H locs ls hw hl h
              change ((3 : Int32) ≤ v18 → (K184 v20 μ24)) ∧ (¬ (3 : Int32) ≤ v18 → (∃ n25x, wpl_X11_sow_79 v18 v19 v21 v22 v23 (fun (u49 : Int32) (μ50 : TMem) => wpl_X11_sow_70 v19 v21 v22 v23 K184 n (v18 + (1 : Int32)) u49 μ50) n25x (0 : Int32) v20 μ24)) at h
              refine lv_iload hx hb dX11_sow_70 (lv_at hl 0 rfl) ?_
              refine lv_iconst (v := (3 : Int32)) hx hb dX11_sow_72 (by decide) ?_
              refine lv_icmp_ge (tgt := 184) hx hb dX11_sow_73 (by decide) (fun c25 => ?_) (fun c25 => ?_)
              · have h := h.1 c25
                exact hK184 v20 μ24 H locs ls hw (lv_sub hl [1, 2, 3, 4, 5, 6] rfl) h
              have h := h.2 c25
              refine lv_iconst (v := (0 : Int32)) hx hb dX11_sow_76 (by decide) ?_
              refine lv_istore (lv' := [(8, .int (0 : Int32)), (7, .int v18), (6, .int v19), (5, .int v20), (0, .ref (ad 0)), (1, .int v21), (3, .int v22), (4, .int v23)]) hx hb dX11_sow_77 hl (by decide) rfl (fun ls hl => ?_)
              obtain ⟨n48, h⟩ := h
              have L25 : ∀ (v28 : Int32) (v29 : Int32) (v31 : Int32) (v32 : Int32) (v33 : Int32) (K178 : Int32 → TMem → Prop), (∀ (v30 : Int32) (μ34 : TMem), ∀ (H : Heap) (locs : List Loc) (ls : Array Slot), MW D (MR ad cI μ34) [] (MA ad s.heap.size) s H locs → lv_has ls 9 [(7, .int v28), (6, .int v29), (5, .int v30), (0, .ref (ad 0)), (1, .int v31), (3, .int v32), (4, .int v33)] → K178 v30 μ34 → W p l e (RA 2 0 0) s m #[.ref (ad 0), .int a1, .int a2, .int a3, .int a4] below meth c H locs 0 0 Z (F0 m 178 ls [])) → ∀ (n : Nat), ∀ (v27 : Int32) (v30 : Int32) (μ34 : TMem), ∀ (H : Heap) (locs : List Loc) (ls : Array Slot), MW D (MR ad cI μ34) [] (MA ad s.heap.size) s H locs → lv_has ls 9 [(8, .int v27), (7, .int v28), (6, .int v29), (5, .int v30), (0, .ref (ad 0)), (1, .int v31), (3, .int v32), (4, .int v33)] → wpl_X11_sow_79 v28 v29 v31 v32 v33 K178 n v27 v30 μ34 → W p l e (RA 2 0 0) s m #[.ref (ad 0), .int a1, .int a2, .int a3, .int a4] below meth c H locs 0 0 Z (F0 m 79 ls []) := by
                intro v28 v29 v31 v32 v33 K178 hK178
                intro n
                induction n with
                | zero => intro v27 v30 μ34 H locs ls hw hl h; exact False.elim h
                | succ n ih25 =>
                  intro v27 v30 μ34 H locs ls hw hl h
                  change ∀ J35 : Int32 → Prop, (∀ (j36 : Int32), ((j36 ≤ v27 → (K178 v30 μ34)) ∧ (¬ j36 ≤ v27 → ((¬ v33 = 0 → (¬ (v33 + (1 : Int32)) = 0 ∧ ((¬ (((((v30 * (25173 : Int32)) + (13849 : Int32)) - ((v30 * (25173 : Int32)) + (13849 : Int32)) / (65536 : Int32) * (65536 : Int32)) / (64 : Int32)) - ((((v30 * (25173 : Int32)) + (13849 : Int32)) - ((v30 * (25173 : Int32)) + (13849 : Int32)) / (65536 : Int32) * (65536 : Int32)) / (64 : Int32)) / (v33 + (1 : Int32)) * (v33 + (1 : Int32))) = 0 → (wpl_X11_sow_79 v28 v29 v31 v32 v33 K178 n (v27 + (1 : Int32)) (((v30 * (25173 : Int32)) + (13849 : Int32)) - ((v30 * (25173 : Int32)) + (13849 : Int32)) / (65536 : Int32) * (65536 : Int32)) μ34)) ∧ ((((((v30 * (25173 : Int32)) + (13849 : Int32)) - ((v30 * (25173 : Int32)) + (13849 : Int32)) / (65536 : Int32) * (65536 : Int32)) / (64 : Int32)) - ((((v30 * (25173 : Int32)) + (13849 : Int32)) - ((v30 * (25173 : Int32)) + (13849 : Int32)) / (65536 : Int32) * (65536 : Int32)) / (64 : Int32)) / (v33 + (1 : Int32)) * (v33 + (1 : Int32))) = 0 → (wp_X11_key v31 v29 v28 (fun (r41 : Int32) => vp_in r41 (ml 4) ∧ (vp_in r41 (ml 4) ∧ (wpl_X11_sow_79 v28 v29 v31 v32 v33 K178 n (v27 + (1 : Int32)) (((v30 * (25173 : Int32)) + (13849 : Int32)) - ((v30 * (25173 : Int32)) + (13849 : Int32)) / (65536 : Int32) * (65536 : Int32)) (tms μ34 4 r41.toNatClampNeg ((μ34 4 r41.toNatClampNeg) ||| ((1 : Int32) <<< (v27 &&& 31)))))))))))) ∧ (v33 = 0 → (wp_X11_key v31 v29 v28 (fun (r44 : Int32) => ¬ v32 = 0 ∧ (vp_in r44 (ml 4) ∧ (wpl_X11_sow_79 v28 v29 v31 v32 v33 K178 n (v27 + (1 : Int32)) (((v30 * (25173 : Int32)) + (13849 : Int32)) - ((v30 * (25173 : Int32)) + (13849 : Int32)) / (65536 : Int32) * (65536 : Int32)) (tms μ34 4 r44.toNatClampNeg ((1 : Int32) <<< ((((((v30 * (25173 : Int32)) + (13849 : Int32)) - ((v30 * (25173 : Int32)) + (13849 : Int32)) / (65536 : Int32) * (65536 : Int32)) / (64 : Int32)) - ((((v30 * (25173 : Int32)) + (13849 : Int32)) - ((v30 * (25173 : Int32)) + (13849 : Int32)) / (65536 : Int32) * (65536 : Int32)) / (64 : Int32)) / v32 * v32) &&& 31))))))))))) → J35 j36) → ((¬ v33 = 0 → (J35 v32)) ∧ (v33 = 0 → (J35 (1 : Int32)))) at h
                  refine lv_iload hx hb dX11_sow_79 (lv_at hl 0 rfl) ?_
                  refine lv_iload hx hb dX11_sow_81 (lv_at hl 7 rfl) ?_
                  have h := h (fun (j36 : Int32) => ∀ (H : Heap) (locs : List Loc) (ls : Array Slot), MW D (MR ad cI μ34) [] (MA ad s.heap.size) s H locs → lv_has ls 9 [(8, .int v27), (7, .int v28), (6, .int v29), (5, .int v30), (0, .ref (ad 0)), (1, .int v31), (3, .int v32), (4, .int v33)] → W p l e (RA 2 0 0) s m #[.ref (ad 0), .int a1, .int a2, .int a3, .int a4] below meth c H locs 0 0 Z (F0 m 91 ls [.int j36, .int v27])) (fun j36 h H locs ls hw hl => by
                    refine lv_icmp_ge (tgt := 178) hx hb dX11_sow_91 (by decide) (fun c37 => ?_) (fun c37 => ?_)
                    · have h := h.1 c37
                      exact hK178 v30 μ34 H locs ls hw (lv_sub hl [1, 2, 3, 4, 5, 6, 7] rfl) h
                    have h := h.2 c37
                    refine lv_iload hx hb dX11_sow_94 (lv_at hl 3 rfl) ?_
                    refine lv_sipush (v := (25173 : Int32)) hx hb dX11_sow_96 (by decide) ?_
                    refine lv_imul hx hb dX11_sow_99 ?_
                    refine lv_sipush (v := (13849 : Int32)) hx hb dX11_sow_100 (by decide) ?_
                    refine lv_iadd hx hb dX11_sow_103 ?_
                    refine lv_ldc (v := (65536 : Int32)) hx hb hown (ht _ q_1397) dX11_sow_104 ?_
                    refine lv_irem hx hb dX11_sow_106 (by decide) ?_
                    refine lv_istore (lv' := [(5, .int (((v30 * (25173 : Int32)) + (13849 : Int32)) - ((v30 * (25173 : Int32)) + (13849 : Int32)) / (65536 : Int32) * (65536 : Int32))), (8, .int v27), (7, .int v28), (6, .int v29), (0, .ref (ad 0)), (1, .int v31), (3, .int v32), (4, .int v33)]) hx hb dX11_sow_107 hl (by decide) rfl (fun ls hl => ?_)
                    refine lv_iload hx hb dX11_sow_109 (lv_at hl 7 rfl) ?_
                    refine lv_if_ne (tgt := 139) hx hb dX11_sow_111 (by decide) (fun c38 => ?_) (fun c38 => ?_)
                    · have h := h.1 c38
                      refine lv_iload hx hb dX11_sow_139 (lv_at hl 0 rfl) ?_
                      refine lv_bipush (v := (64 : Int32)) hx hb dX11_sow_141 (by decide) ?_
                      refine lv_idiv hx hb dX11_sow_143 (by decide) ?_
                      refine lv_iload hx hb dX11_sow_144 (lv_at hl 7 rfl) ?_
                      refine lv_iconst (v := (1 : Int32)) hx hb dX11_sow_146 (by decide) ?_
                      refine lv_iadd hx hb dX11_sow_147 ?_
                      obtain ⟨z39, h⟩ := h
                      refine lv_irem hx hb dX11_sow_148 z39 ?_
                      refine lv_if_ne (tgt := 172) hx hb dX11_sow_149 (by decide) (fun c40 => ?_) (fun c40 => ?_)
                      · have h := h.1 c40
                        refine lv_iinc (v := (v27 + (1 : Int32))) (lv' := [(8, .int (v27 + (1 : Int32))), (5, .int (((v30 * (25173 : Int32)) + (13849 : Int32)) - ((v30 * (25173 : Int32)) + (13849 : Int32)) / (65536 : Int32) * (65536 : Int32))), (7, .int v28), (6, .int v29), (0, .ref (ad 0)), (1, .int v31), (3, .int v32), (4, .int v33)]) hx hb dX11_sow_172 hl (k := 1) rfl rfl (by decide) rfl (fun ls hl => ?_)
                        refine lv_goto (tgt := 79) hx hb dX11_sow_175 (by decide) ?_
                        exact ih25 (v27 + (1 : Int32)) (((v30 * (25173 : Int32)) + (13849 : Int32)) - ((v30 * (25173 : Int32)) + (13849 : Int32)) / (65536 : Int32) * (65536 : Int32)) μ34 H locs ls hw (lv_sub hl [0, 2, 3, 1, 4, 5, 6, 7] rfl) h
                      have h := h.2 c40
                      refine lv_aload_n hx hb dX11_sow_152 rfl (lv_at hl 4 rfl) ?_
                      refine m_get (i := 3) hx hb ht hown hK hw (by decide) (ht _ q_1316) rfl rfl dX11_sow_153 ?_
                      refine lv_iload_n hx hb dX11_sow_156 rfl (lv_at hl 5 rfl) ?_
                      refine lv_iload hx hb dX11_sow_157 (lv_at hl 3 rfl) ?_
                      refine lv_iload hx hb dX11_sow_159 (lv_at hl 2 rfl) ?_
                      refine P_calli (va_runS (own := "LeastreaderModel") (As := [.int v31, .int v29, .int v28]) (rest := [.ref (ad 4)]) ⟨hx, hb, hml, hown, ht⟩ (c_X11_key v31 v29 v28 h) (va_cwS 3 ht (G_S q_1360 q_1361 q_56 q_1362) rfl rfl rfl hd_79 ⟨Nat.le_of_ble_eq_true rfl, Nat.le_of_ble_eq_true rfl⟩) ⟨PM_blind, PM_pre⟩ rfl rfl hl.1 rfl (lv_room (Nat.le_of_ble_eq_true rfl)) dX11_sow_161 ⟨show 0 + 0 ≤ 0 by omega, show 0 + 0 ≤ 0 by omega⟩) (fun r41 h => ?_)
                      refine lv_dup2_11 hx hb dX11_sow_164 rfl rfl ?_
                      obtain ⟨z42, h⟩ := h
                      refine m_iald hx hb hK hw (by decide) z42 dX11_sow_165 ?_
                      refine lv_iconst (v := (1 : Int32)) hx hb dX11_sow_166 (by decide) ?_
                      refine lv_iload hx hb dX11_sow_167 (lv_at hl 1 rfl) ?_
                      refine lv_ishl hx hb dX11_sow_169 ?_
                      refine lv_ior hx hb dX11_sow_170 ?_
                      obtain ⟨z43, h⟩ := h
                      refine m_iast hx hb hK hw (by decide) z43 dX11_sow_171 (fun H locs hw => ?_)
                      refine lv_iinc (v := (v27 + (1 : Int32))) (lv' := [(8, .int (v27 + (1 : Int32))), (5, .int (((v30 * (25173 : Int32)) + (13849 : Int32)) - ((v30 * (25173 : Int32)) + (13849 : Int32)) / (65536 : Int32) * (65536 : Int32))), (7, .int v28), (6, .int v29), (0, .ref (ad 0)), (1, .int v31), (3, .int v32), (4, .int v33)]) hx hb dX11_sow_172 hl (k := 1) rfl rfl (by decide) rfl (fun ls hl => ?_)
                      refine lv_goto (tgt := 79) hx hb dX11_sow_175 (by decide) ?_
                      exact ih25 (v27 + (1 : Int32)) (((v30 * (25173 : Int32)) + (13849 : Int32)) - ((v30 * (25173 : Int32)) + (13849 : Int32)) / (65536 : Int32) * (65536 : Int32)) (tms μ34 4 r41.toNatClampNeg ((μ34 4 r41.toNatClampNeg) ||| ((1 : Int32) <<< (v27 &&& 31)))) H locs ls hw (lv_sub hl [0, 2, 3, 1, 4, 5, 6, 7] rfl) h
                    have h := h.2 c38
                    refine lv_aload_n hx hb dX11_sow_114 rfl (lv_at hl 4 rfl) ?_
                    refine m_get (i := 3) hx hb ht hown hK hw (by decide) (ht _ q_1316) rfl rfl dX11_sow_115 ?_
                    refine lv_iload_n hx hb dX11_sow_118 rfl (lv_at hl 5 rfl) ?_
                    refine lv_iload hx hb dX11_sow_119 (lv_at hl 3 rfl) ?_
                    refine lv_iload hx hb dX11_sow_121 (lv_at hl 2 rfl) ?_
                    refine P_calli (va_runS (own := "LeastreaderModel") (As := [.int v31, .int v29, .int v28]) (rest := [.ref (ad 4)]) ⟨hx, hb, hml, hown, ht⟩ (c_X11_key v31 v29 v28 h) (va_cwS 3 ht (G_S q_1360 q_1361 q_56 q_1362) rfl rfl rfl hd_79 ⟨Nat.le_of_ble_eq_true rfl, Nat.le_of_ble_eq_true rfl⟩) ⟨PM_blind, PM_pre⟩ rfl rfl hl.1 rfl (lv_room (Nat.le_of_ble_eq_true rfl)) dX11_sow_123 ⟨show 0 + 0 ≤ 0 by omega, show 0 + 0 ≤ 0 by omega⟩) (fun r44 h => ?_)
                    refine lv_iconst (v := (1 : Int32)) hx hb dX11_sow_126 (by decide) ?_
                    refine lv_iload hx hb dX11_sow_127 (lv_at hl 0 rfl) ?_
                    refine lv_bipush (v := (64 : Int32)) hx hb dX11_sow_129 (by decide) ?_
                    refine lv_idiv hx hb dX11_sow_131 (by decide) ?_
                    refine lv_iload_n hx hb dX11_sow_132 rfl (lv_at hl 6 rfl) ?_
                    obtain ⟨z45, h⟩ := h
                    refine lv_irem hx hb dX11_sow_133 z45 ?_
                    refine lv_ishl hx hb dX11_sow_134 ?_
                    obtain ⟨z46, h⟩ := h
                    refine m_iast hx hb hK hw (by decide) z46 dX11_sow_135 (fun H locs hw => ?_)
                    refine lv_goto (tgt := 172) hx hb dX11_sow_136 (by decide) ?_
                    refine lv_iinc (v := (v27 + (1 : Int32))) (lv' := [(8, .int (v27 + (1 : Int32))), (5, .int (((v30 * (25173 : Int32)) + (13849 : Int32)) - ((v30 * (25173 : Int32)) + (13849 : Int32)) / (65536 : Int32) * (65536 : Int32))), (7, .int v28), (6, .int v29), (0, .ref (ad 0)), (1, .int v31), (3, .int v32), (4, .int v33)]) hx hb dX11_sow_172 hl (k := 1) rfl rfl (by decide) rfl (fun ls hl => ?_)
                    refine lv_goto (tgt := 79) hx hb dX11_sow_175 (by decide) ?_
                    exact ih25 (v27 + (1 : Int32)) (((v30 * (25173 : Int32)) + (13849 : Int32)) - ((v30 * (25173 : Int32)) + (13849 : Int32)) / (65536 : Int32) * (65536 : Int32)) (tms μ34 4 r44.toNatClampNeg ((1 : Int32) <<< ((((((v30 * (25173 : Int32)) + (13849 : Int32)) - ((v30 * (25173 : Int32)) + (13849 : Int32)) / (65536 : Int32) * (65536 : Int32)) / (64 : Int32)) - ((((v30 * (25173 : Int32)) + (13849 : Int32)) - ((v30 * (25173 : Int32)) + (13849 : Int32)) / (65536 : Int32) * (65536 : Int32)) / (64 : Int32)) / v32 * v32) &&& 31))) H locs ls hw (lv_sub hl [0, 2, 3, 1, 4, 5, 6, 7] rfl) h)
                  refine lv_if_ne (tgt := 90) hx hb dX11_sow_83 (by decide) (fun c47 => ?_) (fun c47 => ?_)
                  · have h := h.1 c47
                    refine lv_iload_n hx hb dX11_sow_90 rfl (lv_at hl 6 rfl) ?_
                    exact h H locs ls hw (lv_sub hl [0, 1, 2, 3, 4, 5, 6, 7] rfl)
                  have h := h.2 c47
                  refine lv_iconst (v := (1 : Int32)) hx hb dX11_sow_86 (by decide) ?_
                  refine lv_goto (tgt := 91) hx hb dX11_sow_87 (by decide) ?_
                  exact h H locs ls hw (lv_sub hl [0, 1, 2, 3, 4, 5, 6, 7] rfl)
              refine L25 v18 v19 v21 v22 v23 _ ?_ n48 (0 : Int32) v20 μ24 H locs ls hw (lv_sub hl [0, 1, 2, 3, 4, 5, 6, 7] rfl) h
              intro u49 μ50 H locs ls hw hl h
              refine lv_iinc (v := (v18 + (1 : Int32))) (lv' := [(7, .int (v18 + (1 : Int32))), (6, .int v19), (5, .int u49), (0, .ref (ad 0)), (1, .int v21), (3, .int v22), (4, .int v23)]) hx hb dX11_sow_178 hl (k := 0) rfl rfl (by decide) rfl (fun ls hl => ?_)
              refine lv_goto (tgt := 70) hx hb dX11_sow_181 (by decide) ?_
              exact ih16 (v18 + (1 : Int32)) u49 μ50 H locs ls hw (lv_sub hl [0, 1, 2, 3, 4, 5, 6] rfl) h
          refine L16 v10 v12 v13 v14 _ ?_ n51 (0 : Int32) v11 μ15 H locs ls hw (lv_sub hl [0, 1, 2, 3, 4, 5, 6] rfl) h
          intro u52 μ53 H locs ls hw hl h
          refine lv_iinc (v := (v10 + (1 : Int32))) (lv' := [(6, .int (v10 + (1 : Int32))), (5, .int u52), (0, .ref (ad 0)), (1, .int v12), (3, .int v13), (4, .int v14)]) hx hb dX11_sow_184 hl (k := 0) rfl rfl (by decide) rfl (fun ls hl => ?_)
          refine lv_goto (tgt := 61) hx hb dX11_sow_187 (by decide) ?_
          exact ih8 (v10 + (1 : Int32)) u52 μ53 H locs ls hw (lv_sub hl [0, 1, 2, 3, 4, 5] rfl) h
      refine L8 a1 a3 a4 _ ?_ n54 (0 : Int32) a2 μ8 H locs ls hw (lv_sub hl [0, 1, 2, 3, 5, 6] rfl) h
      intro u55 μ56 H locs ls hw hl h
      refine lv_iconst (v := (0 : Int32)) hx hb dX11_sow_190 (by decide) ?_
      refine lv_istore (lv' := [(6, .int (0 : Int32)), (5, .int u55), (0, .ref (ad 0)), (1, .int a1), (3, .int a3)]) hx hb dX11_sow_191 hl (by decide) rfl (fun ls hl => ?_)
      obtain ⟨n67, h⟩ := h
      have L56 : ∀ (v60 : Int32) (v61 : Int32) (K243 : TMem → Prop), (∀ (μ62 : TMem), ∀ (H : Heap) (locs : List Loc) (ls : Array Slot), MW D (MR ad cI μ62) [] (MA ad s.heap.size) s H locs → lv_has ls 9 [(0, .ref (ad 0)), (1, .int v60)] → K243 μ62 → W p l e (RA 2 0 0) s m #[.ref (ad 0), .int a1, .int a2, .int a3, .int a4] below meth c H locs 0 0 Z (F0 m 243 ls [])) → ∀ (n : Nat), ∀ (v58 : Int32) (v59 : Int32) (μ62 : TMem), ∀ (H : Heap) (locs : List Loc) (ls : Array Slot), MW D (MR ad cI μ62) [] (MA ad s.heap.size) s H locs → lv_has ls 9 [(6, .int v58), (5, .int v59), (0, .ref (ad 0)), (1, .int v60), (3, .int v61)] → wpl_X11_sow_193 v60 v61 K243 n v58 v59 μ62 → W p l e (RA 2 0 0) s m #[.ref (ad 0), .int a1, .int a2, .int a3, .int a4] below meth c H locs 0 0 Z (F0 m 193 ls []) := by
        intro v60 v61 K243 hK243
        intro n
        induction n with
        | zero => intro v58 v59 μ62 H locs ls hw hl h; exact False.elim h
        | succ n ih56 =>
          intro v58 v59 μ62 H locs ls hw hl h
          change (v61 ≤ v58 → (K243 μ62)) ∧ (¬ v61 ≤ v58 → ((¬ (((((v59 * (25173 : Int32)) + (13849 : Int32)) - ((v59 * (25173 : Int32)) + (13849 : Int32)) / (65536 : Int32) * (65536 : Int32)) / (64 : Int32)) - ((((v59 * (25173 : Int32)) + (13849 : Int32)) - ((v59 * (25173 : Int32)) + (13849 : Int32)) / (65536 : Int32) * (65536 : Int32)) / (64 : Int32)) / (2 : Int32) * (2 : Int32)) = 0 → (wpl_X11_sow_193 v60 v61 K243 n (v58 + (1 : Int32)) (((v59 * (25173 : Int32)) + (13849 : Int32)) - ((v59 * (25173 : Int32)) + (13849 : Int32)) / (65536 : Int32) * (65536 : Int32)) μ62)) ∧ ((((((v59 * (25173 : Int32)) + (13849 : Int32)) - ((v59 * (25173 : Int32)) + (13849 : Int32)) / (65536 : Int32) * (65536 : Int32)) / (64 : Int32)) - ((((v59 * (25173 : Int32)) + (13849 : Int32)) - ((v59 * (25173 : Int32)) + (13849 : Int32)) / (65536 : Int32) * (65536 : Int32)) / (64 : Int32)) / (2 : Int32) * (2 : Int32)) = 0 → (vp_in v60 (ml 3) ∧ (vp_in v60 (ml 3) ∧ (wpl_X11_sow_193 v60 v61 K243 n (v58 + (1 : Int32)) (((v59 * (25173 : Int32)) + (13849 : Int32)) - ((v59 * (25173 : Int32)) + (13849 : Int32)) / (65536 : Int32) * (65536 : Int32)) (tms μ62 3 v60.toNatClampNeg ((μ62 3 v60.toNatClampNeg) ||| ((1 : Int32) <<< (v58 &&& 31)))))))))) at h
          refine lv_iload hx hb dX11_sow_193 (lv_at hl 0 rfl) ?_
          refine lv_iload_n hx hb dX11_sow_195 rfl (lv_at hl 4 rfl) ?_
          refine lv_icmp_ge (tgt := 243) hx hb dX11_sow_196 (by decide) (fun c63 => ?_) (fun c63 => ?_)
          · have h := h.1 c63
            exact hK243 μ62 H locs ls hw (lv_sub hl [2, 3] rfl) h
          have h := h.2 c63
          refine lv_iload hx hb dX11_sow_199 (lv_at hl 1 rfl) ?_
          refine lv_sipush (v := (25173 : Int32)) hx hb dX11_sow_201 (by decide) ?_
          refine lv_imul hx hb dX11_sow_204 ?_
          refine lv_sipush (v := (13849 : Int32)) hx hb dX11_sow_205 (by decide) ?_
          refine lv_iadd hx hb dX11_sow_208 ?_
          refine lv_ldc (v := (65536 : Int32)) hx hb hown (ht _ q_1397) dX11_sow_209 ?_
          refine lv_irem hx hb dX11_sow_211 (by decide) ?_
          refine lv_istore (lv' := [(5, .int (((v59 * (25173 : Int32)) + (13849 : Int32)) - ((v59 * (25173 : Int32)) + (13849 : Int32)) / (65536 : Int32) * (65536 : Int32))), (6, .int v58), (0, .ref (ad 0)), (1, .int v60), (3, .int v61)]) hx hb dX11_sow_212 hl (by decide) rfl (fun ls hl => ?_)
          refine lv_iload hx hb dX11_sow_214 (lv_at hl 0 rfl) ?_
          refine lv_bipush (v := (64 : Int32)) hx hb dX11_sow_216 (by decide) ?_
          refine lv_idiv hx hb dX11_sow_218 (by decide) ?_
          refine lv_iconst (v := (2 : Int32)) hx hb dX11_sow_219 (by decide) ?_
          refine lv_irem hx hb dX11_sow_220 (by decide) ?_
          refine lv_if_ne (tgt := 237) hx hb dX11_sow_221 (by decide) (fun c64 => ?_) (fun c64 => ?_)
          · have h := h.1 c64
            refine lv_iinc (v := (v58 + (1 : Int32))) (lv' := [(6, .int (v58 + (1 : Int32))), (5, .int (((v59 * (25173 : Int32)) + (13849 : Int32)) - ((v59 * (25173 : Int32)) + (13849 : Int32)) / (65536 : Int32) * (65536 : Int32))), (0, .ref (ad 0)), (1, .int v60), (3, .int v61)]) hx hb dX11_sow_237 hl (k := 1) rfl rfl (by decide) rfl (fun ls hl => ?_)
            refine lv_goto (tgt := 193) hx hb dX11_sow_240 (by decide) ?_
            exact ih56 (v58 + (1 : Int32)) (((v59 * (25173 : Int32)) + (13849 : Int32)) - ((v59 * (25173 : Int32)) + (13849 : Int32)) / (65536 : Int32) * (65536 : Int32)) μ62 H locs ls hw (lv_sub hl [0, 1, 2, 3, 4] rfl) h
          have h := h.2 c64
          refine lv_aload_n hx hb dX11_sow_224 rfl (lv_at hl 2 rfl) ?_
          refine m_get (i := 2) hx hb ht hown hK hw (by decide) (ht _ q_1315) rfl rfl dX11_sow_225 ?_
          refine lv_iload_n hx hb dX11_sow_228 rfl (lv_at hl 3 rfl) ?_
          refine lv_dup2_11 hx hb dX11_sow_229 rfl rfl ?_
          obtain ⟨z65, h⟩ := h
          refine m_iald hx hb hK hw (by decide) z65 dX11_sow_230 ?_
          refine lv_iconst (v := (1 : Int32)) hx hb dX11_sow_231 (by decide) ?_
          refine lv_iload hx hb dX11_sow_232 (lv_at hl 1 rfl) ?_
          refine lv_ishl hx hb dX11_sow_234 ?_
          refine lv_ior hx hb dX11_sow_235 ?_
          obtain ⟨z66, h⟩ := h
          refine m_iast hx hb hK hw (by decide) z66 dX11_sow_236 (fun H locs hw => ?_)
          refine lv_iinc (v := (v58 + (1 : Int32))) (lv' := [(6, .int (v58 + (1 : Int32))), (5, .int (((v59 * (25173 : Int32)) + (13849 : Int32)) - ((v59 * (25173 : Int32)) + (13849 : Int32)) / (65536 : Int32) * (65536 : Int32))), (0, .ref (ad 0)), (1, .int v60), (3, .int v61)]) hx hb dX11_sow_237 hl (k := 1) rfl rfl (by decide) rfl (fun ls hl => ?_)
          refine lv_goto (tgt := 193) hx hb dX11_sow_240 (by decide) ?_
          exact ih56 (v58 + (1 : Int32)) (((v59 * (25173 : Int32)) + (13849 : Int32)) - ((v59 * (25173 : Int32)) + (13849 : Int32)) / (65536 : Int32) * (65536 : Int32)) (tms μ62 3 v60.toNatClampNeg ((μ62 3 v60.toNatClampNeg) ||| ((1 : Int32) <<< (v58 &&& 31)))) H locs ls hw (lv_sub hl [0, 1, 2, 3, 4] rfl) h
      refine L56 a1 a3 _ ?_ n67 (0 : Int32) u55 μ56 H locs ls hw (lv_sub hl [0, 1, 2, 3, 4] rfl) h
      intro μ68 H locs ls hw hl h
      refine lv_aload_n hx hb dX11_sow_243 rfl (lv_at hl 0 rfl) ?_
      refine lv_aload_n hx hb dX11_sow_244 rfl (lv_at hl 0 rfl) ?_
      refine lv_iload_n hx hb dX11_sow_245 rfl (lv_at hl 1 rfl) ?_
      refine M_calli hw (MA.up hw.2.2.1.1) (va_runV (own := "LeastreaderModel") (As := [.int a1]) (rest := [.ref (ad 0)]) ⟨hx, hb, hml, hown, ht⟩ (c_X11_arrowsOf μ68 H.size a1 h) (cwV 1 ht (G_V q_1356 q_1358 q_27 q_56 q_1359) rfl rfl rfl ⟨rfl, hd_93⟩ ⟨Nat.le_of_ble_eq_true rfl, Nat.le_of_ble_eq_true rfl⟩) ⟨MB.blind, M_recv hK hw, MB.pre hK hI hw va_P0 ne0⟩ rfl rfl hl.1 rfl (lv_room (Nat.le_of_ble_eq_true rfl)) dX11_sow_246 ⟨show 0 + 0 ≤ 0 by omega, show 0 + 0 ≤ 0 by omega⟩) (fun r71 μ69 H locs h hw => ?_)
      obtain ⟨e70, h⟩ := h
      rw [e70] at hw
      refine M_calli hw (MA.up hw.2.2.1.1) (va_runV (own := "LeastreaderModel") (As := [.int r71]) (rest := []) ⟨hx, hb, hml, hown, ht⟩ (c_X11_did μ68 H.size r71 h) (cwV 1 ht (G_V q_1368 q_1370 q_29 q_56 q_1371) rfl rfl rfl ⟨rfl, hd_95⟩ ⟨Nat.le_of_ble_eq_true rfl, Nat.le_of_ble_eq_true rfl⟩) ⟨MB.blind, M_recv hK hw, MB.pre hK hI hw va_P0 ne0⟩ rfl rfl hl.1 rfl (lv_room (Nat.le_of_ble_eq_true rfl)) dX11_sow_249 ⟨show 0 + 0 ≤ 0 by omega, show 0 + 0 ≤ 0 by omega⟩) (fun r73 μ72 H locs h hw => ?_)
      exact hret H locs ls 252 _ _ _ _ _ hw h rfl (show 0 ≤ 0 by omega) (show 0 ≤ 0 by omega) dX11_sow_252
    have h := h.2 c7
    refine lv_iconst (v := (0 : Int32)) hx hb dX11_sow_47 (by decide) ?_
    exact hret H locs ls 48 _ _ _ _ _ hw h rfl (show 0 ≤ 0 by omega) (show 0 ≤ 0 by omega) dX11_sow_48)
  refine lv_if_eq (tgt := 40) hx hb dX11_sow_12 (by decide) (fun c74 => ?_) (fun c74 => ?_)
  · have h := h.1 c74
    refine lv_iconst (v := (0 : Int32)) hx hb dX11_sow_40 (by decide) ?_
    exact h H locs ls hw (lv_sub hl [0, 1, 2, 3, 4] rfl)
  have h := h.2 c74
  refine lv_iload_n hx hb dX11_sow_15 rfl (lv_at hl 3 rfl) ?_
  refine lv_iconst (v := (1 : Int32)) hx hb dX11_sow_16 (by decide) ?_
  refine lv_bipush (v := (7 : Int32)) hx hb dX11_sow_17 (by decide) ?_
  refine P_calli (va_runS (own := "LeastreaderModel") (As := [.int a3, .int (1 : Int32), .int (7 : Int32)]) (rest := [.int r1, .ref (ad 0)]) ⟨hx, hb, hml, hown, ht⟩ (c_X11_isIn a3 (1 : Int32) (7 : Int32) h) (va_cwS 3 ht (G_S q_1349 q_1350 q_56 q_1351) rfl rfl rfl hd_78 ⟨Nat.le_of_ble_eq_true rfl, Nat.le_of_ble_eq_true rfl⟩) ⟨PM_blind, PM_pre⟩ rfl rfl hl.1 rfl (lv_room (Nat.le_of_ble_eq_true rfl)) dX11_sow_19 ⟨show 0 + 0 ≤ 0 by omega, show 0 + 0 ≤ 0 by omega⟩) (fun r75 h => ?_)
  refine lv_if_eq (tgt := 40) hx hb dX11_sow_22 (by decide) (fun c76 => ?_) (fun c76 => ?_)
  · have h := h.1 c76
    refine lv_iconst (v := (0 : Int32)) hx hb dX11_sow_40 (by decide) ?_
    exact h H locs ls hw (lv_sub hl [0, 1, 2, 3, 4] rfl)
  have h := h.2 c76
  refine lv_iload hx hb dX11_sow_25 (lv_at hl 4 rfl) ?_
  refine lv_iconst (v := (0 : Int32)) hx hb dX11_sow_27 (by decide) ?_
  refine lv_bipush (v := (6 : Int32)) hx hb dX11_sow_28 (by decide) ?_
  refine P_calli (va_runS (own := "LeastreaderModel") (As := [.int a4, .int (0 : Int32), .int (6 : Int32)]) (rest := [.int r1, .ref (ad 0)]) ⟨hx, hb, hml, hown, ht⟩ (c_X11_isIn a4 (0 : Int32) (6 : Int32) h) (va_cwS 3 ht (G_S q_1349 q_1350 q_56 q_1351) rfl rfl rfl hd_78 ⟨Nat.le_of_ble_eq_true rfl, Nat.le_of_ble_eq_true rfl⟩) ⟨PM_blind, PM_pre⟩ rfl rfl hl.1 rfl (lv_room (Nat.le_of_ble_eq_true rfl)) dX11_sow_30 ⟨show 0 + 0 ≤ 0 by omega, show 0 + 0 ≤ 0 by omega⟩) (fun r77 h => ?_)
  refine lv_if_eq (tgt := 40) hx hb dX11_sow_33 (by decide) (fun c78 => ?_) (fun c78 => ?_)
  · have h := h.1 c78
    refine lv_iconst (v := (0 : Int32)) hx hb dX11_sow_40 (by decide) ?_
    exact h H locs ls hw (lv_sub hl [0, 1, 2, 3, 4] rfl)
  have h := h.2 c78
  refine lv_iconst (v := (1 : Int32)) hx hb dX11_sow_36 (by decide) ?_
  refine lv_goto (tgt := 41) hx hb dX11_sow_37 (by decide) ?_
  exact h H locs ls hw (lv_sub hl [0, 1, 2, 3, 4] rfl)
def wpl_X11_isSame_54 (μ : TMem) (v8 : Int32) (v9 : Int32) (Q : Int32 → Prop) : Nat → Int32 → Int32 → Prop
  | 0, _, _ => False
  | n + 1, v6, v7 =>
    ((21 : Int32) ≤ v6 → (isB v7 ∧ (Q v7))) ∧ (¬ (21 : Int32) ≤ v6 → (wp_X11_key v8 (0 : Int32) (0 : Int32) (fun (r12 : Int32) => vp_in (r12 + v6) (ml 4) ∧ (wp_X11_key v9 (0 : Int32) (0 : Int32) (fun (r14 : Int32) => vp_in (r14 + v6) (ml 4) ∧ ((¬ (μ 4 (r12 + v6).toNatClampNeg) = (μ 4 (r14 + v6).toNatClampNeg) → (wpl_X11_isSame_54 μ v8 v9 Q n (v6 + (1 : Int32)) (v7 &&& (0 : Int32)))) ∧ ((μ 4 (r12 + v6).toNatClampNeg) = (μ 4 (r14 + v6).toNatClampNeg) → (wpl_X11_isSame_54 μ v8 v9 Q n (v6 + (1 : Int32)) (v7 &&& (1 : Int32))))))))))
def wp_X11_isSame (μ : TMem) (a1 : Int32) (a2 : Int32) (Q : Int32 → Prop) : Prop :=
  vp_in a1 (ml 1) ∧ (vp_in a2 (ml 1) ∧ (∀ J3 : Int32 → Prop, (∀ (j4 : Int32), (∃ n4x, wpl_X11_isSame_54 μ a1 a2 Q n4x (0 : Int32) j4) → J3 j4) → ((¬ (μ 1 a1.toNatClampNeg) = (μ 1 a2.toNatClampNeg) → (J3 (0 : Int32))) ∧ ((μ 1 a1.toNatClampNeg) = (μ 1 a2.toNatClampNeg) → (vp_in a1 (ml 2) ∧ (vp_in a2 (ml 2) ∧ ((¬ (μ 2 a1.toNatClampNeg) = (μ 2 a2.toNatClampNeg) → (J3 (0 : Int32))) ∧ ((μ 2 a1.toNatClampNeg) = (μ 2 a2.toNatClampNeg) → (vp_in a1 (ml 3) ∧ (vp_in a2 (ml 3) ∧ ((¬ (μ 3 a1.toNatClampNeg) = (μ 3 a2.toNatClampNeg) → (J3 (0 : Int32))) ∧ ((μ 3 a1.toNatClampNeg) = (μ 3 a2.toNatClampNeg) → (J3 (1 : Int32))))))))))))))
set_option maxHeartbeats 4000000 in
set_option maxRecDepth 100000 in
theorem c_X11_isSame {l : Launch} {D : va_G} {ad : Nat → Nat} {cI cL : ClassId}  (μ : TMem) (sz : Nat) (a1 : Int32) (a2 : Int32)  {Q : Int32 → Prop} (h : wp_X11_isSame μ a1 a2 Q) : MMi l yX11_isSame (.code yX11_isSame cX11_isSame 5 (Option.some Jvm.ClassFile.FieldType.boolean)) 1 0 0 [.ref (ad 0), .int a1, .int a2] D ad cI cL sz μ [] (fun r μ1 => μ1 = μ ∧ Q r) := by
  refine M_meti (by decide +kernel) (Nat.le_of_ble_eq_true rfl) ?_
  intro p e s m below meth c Z ls hx hb hml hown ht hK hP0 hI hne hw hret hl
  have hl : lv_has ls 5 [(0, .ref (ad 0)), (1, .int a1), (2, .int a2)] := hl
  suffices hh : ∀ (H : Heap) (locs : List Loc), MW D (MR ad cI μ) [] (MA ad s.heap.size) s H locs → W p l e (RA 1 0 0) s m #[.ref (ad 0), .int a1, .int a2] below meth c H locs 0 0 Z (F0 m 0 ls []) from hh _ _ hw
  intro H locs hw
  change vp_in a1 (ml 1) ∧ (vp_in a2 (ml 1) ∧ (∀ J3 : Int32 → Prop, (∀ (j4 : Int32), (∃ n4x, wpl_X11_isSame_54 μ a1 a2 Q n4x (0 : Int32) j4) → J3 j4) → ((¬ (μ 1 a1.toNatClampNeg) = (μ 1 a2.toNatClampNeg) → (J3 (0 : Int32))) ∧ ((μ 1 a1.toNatClampNeg) = (μ 1 a2.toNatClampNeg) → (vp_in a1 (ml 2) ∧ (vp_in a2 (ml 2) ∧ ((¬ (μ 2 a1.toNatClampNeg) = (μ 2 a2.toNatClampNeg) → (J3 (0 : Int32))) ∧ ((μ 2 a1.toNatClampNeg) = (μ 2 a2.toNatClampNeg) → (vp_in a1 (ml 3) ∧ (vp_in a2 (ml 3) ∧ ((¬ (μ 3 a1.toNatClampNeg) = (μ 3 a2.toNatClampNeg) → (J3 (0 : Int32))) ∧ ((μ 3 a1.toNatClampNeg) = (μ 3 a2.toNatClampNeg) → (J3 (1 : Int32)))))))))))))) at h
  refine lv_aload_n hx hb dX11_isSame_0 rfl (lv_at hl 0 rfl) ?_
  refine m_get (i := 0) hx hb ht hown hK hw (by decide) (ht _ q_1313) rfl rfl dX11_isSame_1 ?_
  refine lv_iload_n hx hb dX11_isSame_4 rfl (lv_at hl 1 rfl) ?_
  obtain ⟨z1, h⟩ := h
  refine m_iald hx hb hK hw (by decide) z1 dX11_isSame_5 ?_
  refine lv_aload_n hx hb dX11_isSame_6 rfl (lv_at hl 0 rfl) ?_
  refine m_get (i := 0) hx hb ht hown hK hw (by decide) (ht _ q_1313) rfl rfl dX11_isSame_7 ?_
  refine lv_iload_n hx hb dX11_isSame_10 rfl (lv_at hl 2 rfl) ?_
  obtain ⟨z2, h⟩ := h
  refine m_iald hx hb hK hw (by decide) z2 dX11_isSame_11 ?_
  have h := h (fun (j4 : Int32) => ∀ (H : Heap) (locs : List Loc) (ls : Array Slot), MW D (MR ad cI μ) [] (MA ad s.heap.size) s H locs → lv_has ls 5 [(0, .ref (ad 0)), (1, .int a1), (2, .int a2)] → W p l e (RA 1 0 0) s m #[.ref (ad 0), .int a1, .int a2] below meth c H locs 0 0 Z (F0 m 50 ls [.int j4])) (fun j4 h H locs ls hw hl => by
    refine lv_istore_n (lv' := [(3, .int j4), (0, .ref (ad 0)), (1, .int a1), (2, .int a2)]) hx hb dX11_isSame_50 rfl hl (by decide) rfl (fun ls hl => ?_)
    refine lv_iconst (v := (0 : Int32)) hx hb dX11_isSame_51 (by decide) ?_
    refine lv_istore (lv' := [(4, .int (0 : Int32)), (3, .int j4), (0, .ref (ad 0)), (1, .int a1), (2, .int a2)]) hx hb dX11_isSame_52 hl (by decide) rfl (fun ls hl => ?_)
    obtain ⟨n17, h⟩ := h
    have L4 : ∀ (v8 : Int32) (v9 : Int32), ∀ (n : Nat), ∀ (v6 : Int32) (v7 : Int32), ∀ (H : Heap) (locs : List Loc) (ls : Array Slot), MW D (MR ad cI μ) [] (MA ad s.heap.size) s H locs → lv_has ls 5 [(4, .int v6), (3, .int v7), (0, .ref (ad 0)), (1, .int v8), (2, .int v9)] → wpl_X11_isSame_54 μ v8 v9 Q n v6 v7 → W p l e (RA 1 0 0) s m #[.ref (ad 0), .int a1, .int a2] below meth c H locs 0 0 Z (F0 m 54 ls []) := by
      intro v8 v9
      intro n
      induction n with
      | zero => intro v6 v7 H locs ls hw hl h; exact False.elim h
      | succ n ih4 =>
        intro v6 v7 H locs ls hw hl h
        change ((21 : Int32) ≤ v6 → (isB v7 ∧ (Q v7))) ∧ (¬ (21 : Int32) ≤ v6 → (wp_X11_key v8 (0 : Int32) (0 : Int32) (fun (r12 : Int32) => vp_in (r12 + v6) (ml 4) ∧ (wp_X11_key v9 (0 : Int32) (0 : Int32) (fun (r14 : Int32) => vp_in (r14 + v6) (ml 4) ∧ ((¬ (μ 4 (r12 + v6).toNatClampNeg) = (μ 4 (r14 + v6).toNatClampNeg) → (wpl_X11_isSame_54 μ v8 v9 Q n (v6 + (1 : Int32)) (v7 &&& (0 : Int32)))) ∧ ((μ 4 (r12 + v6).toNatClampNeg) = (μ 4 (r14 + v6).toNatClampNeg) → (wpl_X11_isSame_54 μ v8 v9 Q n (v6 + (1 : Int32)) (v7 &&& (1 : Int32)))))))))) at h
        refine lv_iload hx hb dX11_isSame_54 (lv_at hl 0 rfl) ?_
        refine lv_bipush (v := (21 : Int32)) hx hb dX11_isSame_56 (by decide) ?_
        refine lv_icmp_ge (tgt := 106) hx hb dX11_isSame_58 (by decide) (fun c10 => ?_) (fun c10 => ?_)
        · have h := h.1 c10
          refine lv_iload_n hx hb dX11_isSame_106 rfl (lv_at hl 1 rfl) ?_
          obtain ⟨z11, h⟩ := h
          exact hret H locs ls 107 _ _ _ _ _ hw ⟨rfl, h⟩ (isB_n z11) (show 0 ≤ 0 by omega) (show 0 ≤ 0 by omega) dX11_isSame_107
        have h := h.2 c10
        refine lv_iload_n hx hb dX11_isSame_61 rfl (lv_at hl 1 rfl) ?_
        refine lv_aload_n hx hb dX11_isSame_62 rfl (lv_at hl 2 rfl) ?_
        refine m_get (i := 3) hx hb ht hown hK hw (by decide) (ht _ q_1316) rfl rfl dX11_isSame_63 ?_
        refine lv_iload_n hx hb dX11_isSame_66 rfl (lv_at hl 3 rfl) ?_
        refine lv_iconst (v := (0 : Int32)) hx hb dX11_isSame_67 (by decide) ?_
        refine lv_iconst (v := (0 : Int32)) hx hb dX11_isSame_68 (by decide) ?_
        refine P_calli (va_runS (own := "LeastreaderModel") (As := [.int v8, .int (0 : Int32), .int (0 : Int32)]) (rest := [.ref (ad 4), .int v7]) ⟨hx, hb, hml, hown, ht⟩ (c_X11_key v8 (0 : Int32) (0 : Int32) h) (va_cwS 3 ht (G_S q_1360 q_1361 q_56 q_1362) rfl rfl rfl hd_79 ⟨Nat.le_of_ble_eq_true rfl, Nat.le_of_ble_eq_true rfl⟩) ⟨PM_blind, PM_pre⟩ rfl rfl hl.1 rfl (lv_room (Nat.le_of_ble_eq_true rfl)) dX11_isSame_69 ⟨show 0 + 0 ≤ 0 by omega, show 0 + 0 ≤ 0 by omega⟩) (fun r12 h => ?_)
        refine lv_iload hx hb dX11_isSame_72 (lv_at hl 0 rfl) ?_
        refine lv_iadd hx hb dX11_isSame_74 ?_
        obtain ⟨z13, h⟩ := h
        refine m_iald hx hb hK hw (by decide) z13 dX11_isSame_75 ?_
        refine lv_aload_n hx hb dX11_isSame_76 rfl (lv_at hl 2 rfl) ?_
        refine m_get (i := 3) hx hb ht hown hK hw (by decide) (ht _ q_1316) rfl rfl dX11_isSame_77 ?_
        refine lv_iload_n hx hb dX11_isSame_80 rfl (lv_at hl 4 rfl) ?_
        refine lv_iconst (v := (0 : Int32)) hx hb dX11_isSame_81 (by decide) ?_
        refine lv_iconst (v := (0 : Int32)) hx hb dX11_isSame_82 (by decide) ?_
        refine P_calli (va_runS (own := "LeastreaderModel") (As := [.int v9, .int (0 : Int32), .int (0 : Int32)]) (rest := [.ref (ad 4), .int (μ 4 (r12 + v6).toNatClampNeg), .int v7]) ⟨hx, hb, hml, hown, ht⟩ (c_X11_key v9 (0 : Int32) (0 : Int32) h) (va_cwS 3 ht (G_S q_1360 q_1361 q_56 q_1362) rfl rfl rfl hd_79 ⟨Nat.le_of_ble_eq_true rfl, Nat.le_of_ble_eq_true rfl⟩) ⟨PM_blind, PM_pre⟩ rfl rfl hl.1 rfl (lv_room (Nat.le_of_ble_eq_true rfl)) dX11_isSame_83 ⟨show 0 + 0 ≤ 0 by omega, show 0 + 0 ≤ 0 by omega⟩) (fun r14 h => ?_)
        refine lv_iload hx hb dX11_isSame_86 (lv_at hl 0 rfl) ?_
        refine lv_iadd hx hb dX11_isSame_88 ?_
        obtain ⟨z15, h⟩ := h
        refine m_iald hx hb hK hw (by decide) z15 dX11_isSame_89 ?_
        refine lv_icmp_ne (tgt := 97) hx hb dX11_isSame_90 (by decide) (fun c16 => ?_) (fun c16 => ?_)
        · have h := h.1 c16
          refine lv_iconst (v := (0 : Int32)) hx hb dX11_isSame_97 (by decide) ?_
          refine lv_iand hx hb dX11_isSame_98 ?_
          refine lv_istore_n (lv' := [(3, .int (v7 &&& (0 : Int32))), (4, .int v6), (0, .ref (ad 0)), (1, .int v8), (2, .int v9)]) hx hb dX11_isSame_99 rfl hl (by decide) rfl (fun ls hl => ?_)
          refine lv_iinc (v := (v6 + (1 : Int32))) (lv' := [(4, .int (v6 + (1 : Int32))), (3, .int (v7 &&& (0 : Int32))), (0, .ref (ad 0)), (1, .int v8), (2, .int v9)]) hx hb dX11_isSame_100 hl (k := 1) rfl rfl (by decide) rfl (fun ls hl => ?_)
          refine lv_goto (tgt := 54) hx hb dX11_isSame_103 (by decide) ?_
          exact ih4 (v6 + (1 : Int32)) (v7 &&& (0 : Int32)) H locs ls hw (lv_sub hl [0, 1, 2, 3, 4] rfl) h
        have h := h.2 c16
        refine lv_iconst (v := (1 : Int32)) hx hb dX11_isSame_93 (by decide) ?_
        refine lv_goto (tgt := 98) hx hb dX11_isSame_94 (by decide) ?_
        refine lv_iand hx hb dX11_isSame_98 ?_
        refine lv_istore_n (lv' := [(3, .int (v7 &&& (1 : Int32))), (4, .int v6), (0, .ref (ad 0)), (1, .int v8), (2, .int v9)]) hx hb dX11_isSame_99 rfl hl (by decide) rfl (fun ls hl => ?_)
        refine lv_iinc (v := (v6 + (1 : Int32))) (lv' := [(4, .int (v6 + (1 : Int32))), (3, .int (v7 &&& (1 : Int32))), (0, .ref (ad 0)), (1, .int v8), (2, .int v9)]) hx hb dX11_isSame_100 hl (k := 1) rfl rfl (by decide) rfl (fun ls hl => ?_)
        refine lv_goto (tgt := 54) hx hb dX11_isSame_103 (by decide) ?_
        exact ih4 (v6 + (1 : Int32)) (v7 &&& (1 : Int32)) H locs ls hw (lv_sub hl [0, 1, 2, 3, 4] rfl) h
    exact L4 a1 a2 n17 (0 : Int32) j4 H locs ls hw (lv_sub hl [0, 1, 2, 3, 4] rfl) h)
  refine lv_icmp_ne (tgt := 49) hx hb dX11_isSame_12 (by decide) (fun c18 => ?_) (fun c18 => ?_)
  · have h := h.1 c18
    refine lv_iconst (v := (0 : Int32)) hx hb dX11_isSame_49 (by decide) ?_
    exact h H locs ls hw (lv_sub hl [0, 1, 2] rfl)
  have h := h.2 c18
  refine lv_aload_n hx hb dX11_isSame_15 rfl (lv_at hl 0 rfl) ?_
  refine m_get (i := 1) hx hb ht hown hK hw (by decide) (ht _ q_1314) rfl rfl dX11_isSame_16 ?_
  refine lv_iload_n hx hb dX11_isSame_19 rfl (lv_at hl 1 rfl) ?_
  obtain ⟨z19, h⟩ := h
  refine m_iald hx hb hK hw (by decide) z19 dX11_isSame_20 ?_
  refine lv_aload_n hx hb dX11_isSame_21 rfl (lv_at hl 0 rfl) ?_
  refine m_get (i := 1) hx hb ht hown hK hw (by decide) (ht _ q_1314) rfl rfl dX11_isSame_22 ?_
  refine lv_iload_n hx hb dX11_isSame_25 rfl (lv_at hl 2 rfl) ?_
  obtain ⟨z20, h⟩ := h
  refine m_iald hx hb hK hw (by decide) z20 dX11_isSame_26 ?_
  refine lv_icmp_ne (tgt := 49) hx hb dX11_isSame_27 (by decide) (fun c21 => ?_) (fun c21 => ?_)
  · have h := h.1 c21
    refine lv_iconst (v := (0 : Int32)) hx hb dX11_isSame_49 (by decide) ?_
    exact h H locs ls hw (lv_sub hl [0, 1, 2] rfl)
  have h := h.2 c21
  refine lv_aload_n hx hb dX11_isSame_30 rfl (lv_at hl 0 rfl) ?_
  refine m_get (i := 2) hx hb ht hown hK hw (by decide) (ht _ q_1315) rfl rfl dX11_isSame_31 ?_
  refine lv_iload_n hx hb dX11_isSame_34 rfl (lv_at hl 1 rfl) ?_
  obtain ⟨z22, h⟩ := h
  refine m_iald hx hb hK hw (by decide) z22 dX11_isSame_35 ?_
  refine lv_aload_n hx hb dX11_isSame_36 rfl (lv_at hl 0 rfl) ?_
  refine m_get (i := 2) hx hb ht hown hK hw (by decide) (ht _ q_1315) rfl rfl dX11_isSame_37 ?_
  refine lv_iload_n hx hb dX11_isSame_40 rfl (lv_at hl 2 rfl) ?_
  obtain ⟨z23, h⟩ := h
  refine m_iald hx hb hK hw (by decide) z23 dX11_isSame_41 ?_
  refine lv_icmp_ne (tgt := 49) hx hb dX11_isSame_42 (by decide) (fun c24 => ?_) (fun c24 => ?_)
  · have h := h.1 c24
    refine lv_iconst (v := (0 : Int32)) hx hb dX11_isSame_49 (by decide) ?_
    exact h H locs ls hw (lv_sub hl [0, 1, 2] rfl)
  have h := h.2 c24
  refine lv_iconst (v := (1 : Int32)) hx hb dX11_isSame_45 (by decide) ?_
  refine lv_goto (tgt := 50) hx hb dX11_isSame_46 (by decide) ?_
  exact h H locs ls hw (lv_sub hl [0, 1, 2] rfl)
