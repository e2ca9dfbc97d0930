def wpl_X11_clear_23 (v6 : Int32) (Q : TMem → Prop) : Nat → Int32 → TMem → Prop
  | 0, _, _ => False
  | n + 1, v5, μ7 =>
    ((21 : Int32) ≤ v5 → (Q μ7)) ∧ (¬ (21 : Int32) ≤ v5 → (wp_X11_key v6 (0 : Int32) (0 : Int32) (fun (r9 : Int32) => vp_in (r9 + v5) (ml 4) ∧ (wpl_X11_clear_23 v6 Q n (v5 + (1 : Int32)) (tms μ7 4 (r9 + v5).toNatClampNeg (0 : Int32))))))
def wp_X11_clear (μ : TMem) (a1 : Int32) (a2 : Int32) (Q : TMem → Prop) : Prop :=
  vp_in a1 (ml 1) ∧ (vp_in a1 (ml 2) ∧ (vp_in a1 (ml 3) ∧ (∃ n3x, wpl_X11_clear_23 a1 Q n3x (0 : Int32) (tms (tms (tms μ 1 a1.toNatClampNeg a2) 2 a1.toNatClampNeg (1 : Int32)) 3 a1.toNatClampNeg (0 : Int32)))))
set_option maxHeartbeats 4000000 in
set_option maxRecDepth 100000 in
theorem c_X11_clear {l : Launch} {D : va_G} {ad : Nat → Nat} {cI cL : ClassId}  (μ : TMem) (sz : Nat) (a1 : Int32) (a2 : Int32)  {Q : TMem → Prop} (h : wp_X11_clear μ a1 a2 Q) : MMv l yX11_clear (.code yX11_clear cX11_clear 4 (Option.none : Option Jvm.ClassFile.FieldType)) 1 0 0 [.ref (ad 0), .int a1, .int a2] D ad cI cL sz μ [] Q := by
  refine M_metv (by decide +kernel) (Nat.le_of_ble_eq_true rfl) ?_
  intro p e s m below meth c Z ls hx hb hml hown ht hK hP0 hI hne hw hret hl
  have hl : lv_has ls 4 [(0, .ref (ad 0)), (1, .int a1), (2, .int a2)] := hl
  suffices hh : ∀ (H : Heap) (locs : List Loc), MW D (MR ad cI μ) [] (MA ad s.heap.size) s H locs → W p l e (RA 1 0 0) s m #[.ref (ad 0), .int a1, .int a2] below meth c H locs 0 0 Z (F0 m 0 ls []) from hh _ _ hw
  intro H locs hw
  change vp_in a1 (ml 1) ∧ (vp_in a1 (ml 2) ∧ (vp_in a1 (ml 3) ∧ (∃ n3x, wpl_X11_clear_23 a1 Q n3x (0 : Int32) (tms (tms (tms μ 1 a1.toNatClampNeg a2) 2 a1.toNatClampNeg (1 : Int32)) 3 a1.toNatClampNeg (0 : Int32))))) at h
  refine lv_aload_n hx hb dX11_clear_0 rfl (lv_at hl 0 rfl) ?_
  refine m_get (i := 0) hx hb ht hown hK hw (by decide) (ht _ q_1313) rfl rfl dX11_clear_1 ?_
  refine lv_iload_n hx hb dX11_clear_4 rfl (lv_at hl 1 rfl) ?_
  refine lv_iload_n hx hb dX11_clear_5 rfl (lv_at hl 2 rfl) ?_
  obtain ⟨z1, h⟩ := h
  refine m_iast hx hb hK hw (by decide) z1 dX11_clear_6 (fun H locs hw => ?_)
  refine lv_aload_n hx hb dX11_clear_7 rfl (lv_at hl 0 rfl) ?_
  refine m_get (i := 1) hx hb ht hown hK hw (by decide) (ht _ q_1314) rfl rfl dX11_clear_8 ?_
  refine lv_iload_n hx hb dX11_clear_11 rfl (lv_at hl 1 rfl) ?_
  refine lv_iconst (v := (1 : Int32)) hx hb dX11_clear_12 (by decide) ?_
  obtain ⟨z2, h⟩ := h
  refine m_iast hx hb hK hw (by decide) z2 dX11_clear_13 (fun H locs hw => ?_)
  refine lv_aload_n hx hb dX11_clear_14 rfl (lv_at hl 0 rfl) ?_
  refine m_get (i := 2) hx hb ht hown hK hw (by decide) (ht _ q_1315) rfl rfl dX11_clear_15 ?_
  refine lv_iload_n hx hb dX11_clear_18 rfl (lv_at hl 1 rfl) ?_
  refine lv_iconst (v := (0 : Int32)) hx hb dX11_clear_19 (by decide) ?_
  obtain ⟨z3, h⟩ := h
  refine m_iast hx hb hK hw (by decide) z3 dX11_clear_20 (fun H locs hw => ?_)
  refine lv_iconst (v := (0 : Int32)) hx hb dX11_clear_21 (by decide) ?_
  refine lv_istore_n (lv' := [(3, .int (0 : Int32)), (0, .ref (ad 0)), (1, .int a1), (2, .int a2)]) hx hb dX11_clear_22 rfl hl (by decide) rfl (fun ls hl => ?_)
  obtain ⟨n11, h⟩ := h
  have L3 : ∀ (v6 : Int32), ∀ (n : Nat), ∀ (v5 : Int32) (μ7 : TMem), ∀ (H : Heap) (locs : List Loc) (ls : Array Slot), MW D (MR ad cI μ7) [] (MA ad s.heap.size) s H locs → lv_has ls 4 [(3, .int v5), (0, .ref (ad 0)), (1, .int v6)] → wpl_X11_clear_23 v6 Q n v5 μ7 → W p l e (RA 1 0 0) s m #[.ref (ad 0), .int a1, .int a2] below meth c H locs 0 0 Z (F0 m 23 ls []) := by
    intro v6
    intro n
    induction n with
    | zero => intro v5 μ7 H locs ls hw hl h; exact False.elim h
    | succ n ih3 =>
      intro v5 μ7 H locs ls hw hl h
      change ((21 : Int32) ≤ v5 → (Q μ7)) ∧ (¬ (21 : Int32) ≤ v5 → (wp_X11_key v6 (0 : Int32) (0 : Int32) (fun (r9 : Int32) => vp_in (r9 + v5) (ml 4) ∧ (wpl_X11_clear_23 v6 Q n (v5 + (1 : Int32)) (tms μ7 4 (r9 + v5).toNatClampNeg (0 : Int32)))))) at h
      refine lv_iload_n hx hb dX11_clear_23 rfl (lv_at hl 0 rfl) ?_
      refine lv_bipush (v := (21 : Int32)) hx hb dX11_clear_24 (by decide) ?_
      refine lv_icmp_ge (tgt := 49) hx hb dX11_clear_26 (by decide) (fun c8 => ?_) (fun c8 => ?_)
      · have h := h.1 c8
        exact hret H locs ls 49 _ _ _ _ hw h (show 0 ≤ 0 by omega) (show 0 ≤ 0 by omega) dX11_clear_49
      have h := h.2 c8
      refine lv_aload_n hx hb dX11_clear_29 rfl (lv_at hl 1 rfl) ?_
      refine m_get (i := 3) hx hb ht hown hK hw (by decide) (ht _ q_1316) rfl rfl dX11_clear_30 ?_
      refine lv_iload_n hx hb dX11_clear_33 rfl (lv_at hl 2 rfl) ?_
      refine lv_iconst (v := (0 : Int32)) hx hb dX11_clear_34 (by decide) ?_
      refine lv_iconst (v := (0 : Int32)) hx hb dX11_clear_35 (by decide) ?_
      refine P_calli (va_runS (own := "LeastreaderModel") (As := [.int v6, .int (0 : Int32), .int (0 : Int32)]) (rest := [.ref (ad 4)]) ⟨hx, hb, hml, hown, ht⟩ (c_X11_key v6 (0 : Int32) (0 : Int32) h) (va_cwS 3 ht (G_S q_1360 q_1361 q_56 q_1362) rfl rfl rfl hd_79 ⟨Nat.le_of_ble_eq_true rfl, Nat.le_of_ble_eq_true rfl⟩) ⟨PM_blind, PM_pre⟩ rfl rfl hl.1 rfl (lv_room (Nat.le_of_ble_eq_true rfl)) dX11_clear_36 ⟨show 0 + 0 ≤ 0 by omega, show 0 + 0 ≤ 0 by omega⟩) (fun r9 h => ?_)
      refine lv_iload_n hx hb dX11_clear_39 rfl (lv_at hl 0 rfl) ?_
      refine lv_iadd hx hb dX11_clear_40 ?_
      refine lv_iconst (v := (0 : Int32)) hx hb dX11_clear_41 (by decide) ?_
      obtain ⟨z10, h⟩ := h
      refine m_iast hx hb hK hw (by decide) z10 dX11_clear_42 (fun H locs hw => ?_)
      refine lv_iinc (v := (v5 + (1 : Int32))) (lv' := [(3, .int (v5 + (1 : Int32))), (0, .ref (ad 0)), (1, .int v6)]) hx hb dX11_clear_43 hl (k := 0) rfl rfl (by decide) rfl (fun ls hl => ?_)
      refine lv_goto (tgt := 23) hx hb dX11_clear_46 (by decide) ?_
      exact ih3 (v5 + (1 : Int32)) (tms μ7 4 (r9 + v5).toNatClampNeg (0 : Int32)) H locs ls hw (lv_sub hl [0, 1, 2] rfl) h
  exact L3 a1 n11 (0 : Int32) (tms (tms (tms μ 1 a1.toNatClampNeg a2) 2 a1.toNatClampNeg (1 : Int32)) 3 a1.toNatClampNeg (0 : Int32)) H locs ls hw (lv_sub hl [0, 1, 2] rfl) h
def wp_X11_begin (μ : TMem) (a1 : Int32) (a2 : Int32) (Q : Int32 → TMem → Prop) : Prop :=
  wp_X11_isOne a1 (fun (r1 : Int32) => wp_X11_isIn a2 (1 : Int32) (7 : Int32) (fun (r2 : Int32) => wp_X11_isThrown μ r1 r2 (fun (r4 : Int32) (μ3 : TMem) => (r4 = 0 → (wp_X11_arrowsOf μ3 a1 (fun (r8 : Int32) => wp_X11_clear μ3 a1 a2 (fun (μ9 : TMem) => wp_X11_did μ9 r8 (fun (r11 : Int32) (μ10 : TMem) => Q r11 μ10))))) ∧ (¬ r4 = 0 → (Q (0 : Int32) μ3)))))
set_option maxHeartbeats 4000000 in
set_option maxRecDepth 100000 in
theorem c_X11_begin {l : Launch} {D : va_G} {ad : Nat → Nat} {cI cL : ClassId}  (μ : TMem) (sz : Nat) (a1 : Int32) (a2 : Int32)  {Q : Int32 → TMem → Prop} (h : wp_X11_begin μ a1 a2 Q) : MMi l yX11_begin (.code yX11_begin cX11_begin 4 (Option.some Jvm.ClassFile.FieldType.int)) 2 0 0 [.ref (ad 0), .int a1, .int a2] D ad cI cL sz μ [] Q := by
  refine M_meti (by decide +kernel) (Nat.le_of_ble_eq_true rfl) ?_
  intro p e s m below meth c Z ls hx hb hml hown ht hK hP0 hI hne hw hret hl
  have hl : lv_has ls 4 [(0, .ref (ad 0)), (1, .int a1), (2, .int a2)] := hl
  suffices hh : ∀ (H : Heap) (locs : List Loc), MW D (MR ad cI μ) [] (MA ad s.heap.size) s H locs → W p l e (RA 2 0 0) s m #[.ref (ad 0), .int a1, .int a2] below meth c H locs 0 0 Z (F0 m 0 ls []) from hh _ _ hw
  intro H locs hw
  change wp_X11_isOne a1 (fun (r1 : Int32) => wp_X11_isIn a2 (1 : Int32) (7 : Int32) (fun (r2 : Int32) => wp_X11_isThrown μ r1 r2 (fun (r4 : Int32) (μ3 : TMem) => (r4 = 0 → (wp_X11_arrowsOf μ3 a1 (fun (r8 : Int32) => wp_X11_clear μ3 a1 a2 (fun (μ9 : TMem) => wp_X11_did μ9 r8 (fun (r11 : Int32) (μ10 : TMem) => Q r11 μ10))))) ∧ (¬ r4 = 0 → (Q (0 : Int32) μ3))))) at h
  refine lv_aload_n hx hb dX11_begin_0 rfl (lv_at hl 0 rfl) ?_
  refine lv_iload_n hx hb dX11_begin_1 rfl (lv_at hl 1 rfl) ?_
  refine P_calli (va_runS (own := "LeastreaderModel") (As := [.int a1]) (rest := [.ref (ad 0)]) ⟨hx, hb, hml, hown, ht⟩ (c_X11_isOne a1 h) (va_cwS 1 ht (G_S q_1346 q_1347 q_56 q_1348) rfl rfl rfl hd_91 ⟨Nat.le_of_ble_eq_true rfl, Nat.le_of_ble_eq_true rfl⟩) ⟨PM_blind, PM_pre⟩ rfl rfl hl.1 rfl (lv_room (Nat.le_of_ble_eq_true rfl)) dX11_begin_2 ⟨show 0 + 0 ≤ 0 by omega, show 0 + 0 ≤ 0 by omega⟩) (fun r1 h => ?_)
  refine lv_iload_n hx hb dX11_begin_5 rfl (lv_at hl 2 rfl) ?_
  refine lv_iconst (v := (1 : Int32)) hx hb dX11_begin_6 (by decide) ?_
  refine lv_bipush (v := (7 : Int32)) hx hb dX11_begin_7 (by decide) ?_
  refine P_calli (va_runS (own := "LeastreaderModel") (As := [.int a2, .int (1 : Int32), .int (7 : Int32)]) (rest := [.int r1, .ref (ad 0)]) ⟨hx, hb, hml, hown, ht⟩ (c_X11_isIn a2 (1 : Int32) (7 : Int32) h) (va_cwS 3 ht (G_S q_1349 q_1350 q_56 q_1351) rfl rfl rfl hd_78 ⟨Nat.le_of_ble_eq_true rfl, Nat.le_of_ble_eq_true rfl⟩) ⟨PM_blind, PM_pre⟩ rfl rfl hl.1 rfl (lv_room (Nat.le_of_ble_eq_true rfl)) dX11_begin_9 ⟨show 0 + 0 ≤ 0 by omega, show 0 + 0 ≤ 0 by omega⟩) (fun r2 h => ?_)
  refine M_calli hw (MA.up hw.2.2.1.1) (va_runV (own := "LeastreaderModel") (As := [.int r1, .int r2]) (rest := []) ⟨hx, hb, hml, hown, ht⟩ (c_X11_isThrown μ H.size r1 r2 h) (cwV 2 ht (G_V q_1352 q_1354 q_26 q_56 q_1355) rfl rfl rfl ⟨rfl, hd_92⟩ ⟨Nat.le_of_ble_eq_true rfl, Nat.le_of_ble_eq_true rfl⟩) ⟨MB.blind, M_recv hK hw, MB.pre hK hI hw va_P0 ne0⟩ rfl rfl hl.1 rfl (lv_room (Nat.le_of_ble_eq_true rfl)) dX11_begin_12 ⟨show 0 + 0 ≤ 0 by omega, show 0 + 0 ≤ 0 by omega⟩) (fun r4 μ3 H locs h hw => ?_)
  refine lv_if_eq (tgt := 20) hx hb dX11_begin_15 (by decide) (fun c5 => ?_) (fun c5 => ?_)
  · have h := h.1 c5
    refine lv_aload_n hx hb dX11_begin_20 rfl (lv_at hl 0 rfl) ?_
    refine lv_iload_n hx hb dX11_begin_21 rfl (lv_at hl 1 rfl) ?_
    refine M_calli hw (MA.up hw.2.2.1.1) (va_runV (own := "LeastreaderModel") (As := [.int a1]) (rest := []) ⟨hx, hb, hml, hown, ht⟩ (c_X11_arrowsOf μ3 H.size a1 h) (cwV 1 ht (G_V q_1356 q_1358 q_27 q_56 q_1359) rfl rfl rfl ⟨rfl, hd_93⟩ ⟨Nat.le_of_ble_eq_true rfl, Nat.le_of_ble_eq_true rfl⟩) ⟨MB.blind, M_recv hK hw, MB.pre hK hI hw va_P0 ne0⟩ rfl rfl hl.1 rfl (lv_room (Nat.le_of_ble_eq_true rfl)) dX11_begin_22 ⟨show 0 + 0 ≤ 0 by omega, show 0 + 0 ≤ 0 by omega⟩) (fun r8 μ6 H locs h hw => ?_)
    obtain ⟨e7, h⟩ := h
    rw [e7] at hw
    refine lv_istore_n (lv' := [(3, .int r8), (0, .ref (ad 0)), (1, .int a1), (2, .int a2)]) hx hb dX11_begin_25 rfl hl (by decide) rfl (fun ls hl => ?_)
    refine lv_aload_n hx hb dX11_begin_26 rfl (lv_at hl 1 rfl) ?_
    refine lv_iload_n hx hb dX11_begin_27 rfl (lv_at hl 2 rfl) ?_
    refine lv_iload_n hx hb dX11_begin_28 rfl (lv_at hl 3 rfl) ?_
    refine M_callv hw (MA.up hw.2.2.1.1) (va_runV (own := "LeastreaderModel") (As := [.int a1, .int a2]) (rest := []) ⟨hx, hb, hml, hown, ht⟩ (c_X11_clear μ3 H.size a1 a2 h) (cwV 2 ht (G_V q_1364 q_1366 q_28 q_56 q_1367) rfl rfl rfl ⟨rfl, hd_94⟩ ⟨Nat.le_of_ble_eq_true rfl, Nat.le_of_ble_eq_true rfl⟩) ⟨MB.blind, M_recv hK hw, MB.pre hK hI hw va_P0 ne0⟩ rfl rfl hl.1 rfl (lv_room (Nat.le_of_ble_eq_true rfl)) dX11_begin_29 ⟨show 0 + 0 ≤ 0 by omega, show 0 + 0 ≤ 0 by omega⟩) (fun μ9 H locs h hw => ?_)
    refine lv_aload_n hx hb dX11_begin_32 rfl (lv_at hl 1 rfl) ?_
    refine lv_iload_n hx hb dX11_begin_33 rfl (lv_at hl 0 rfl) ?_
    refine M_calli hw (MA.up hw.2.2.1.1) (va_runV (own := "LeastreaderModel") (As := [.int r8]) (rest := []) ⟨hx, hb, hml, hown, ht⟩ (c_X11_did μ9 H.size r8 h) (cwV 1 ht (G_V q_1368 q_1370 q_29 q_56 q_1371) rfl rfl rfl ⟨rfl, hd_95⟩ ⟨Nat.le_of_ble_eq_true rfl, Nat.le_of_ble_eq_true rfl⟩) ⟨MB.blind, M_recv hK hw, MB.pre hK hI hw va_P0 ne0⟩ rfl rfl hl.1 rfl (lv_room (Nat.le_of_ble_eq_true rfl)) dX11_begin_34 ⟨show 0 + 0 ≤ 0 by omega, show 0 + 0 ≤ 0 by omega⟩) (fun r11 μ10 H locs h hw => ?_)
    exact hret H locs ls 37 _ _ _ _ _ hw h rfl (show 0 ≤ 0 by omega) (show 0 ≤ 0 by omega) dX11_begin_37
  have h := h.2 c5
  refine lv_iconst (v := (0 : Int32)) hx hb dX11_begin_18 (by decide) ?_
  exact hret H locs ls 19 _ _ _ _ _ hw h rfl (show 0 ≤ 0 by omega) (show 0 ≤ 0 by omega) dX11_begin_19
def wp_X11_isNoArrow (μ : TMem) (a1 : Int32) (a2 : Int32) (a3 : Int32) (a4 : Int32) (Q : Int32 → TMem → Prop) : Prop :=
  wp_X11_isOne a1 (fun (r1 : Int32) => ∀ J2 : Int32 → Prop, (∀ (j3 : Int32), (wp_X11_isIn a3 (0 : Int32) (2 : Int32) (fun (r4 : Int32) => wp_X11_isThrown μ j3 r4 (fun (r6 : Int32) (μ5 : TMem) => isB r6 ∧ (Q r6 μ5)))) → J2 j3) → ((r1 = 0 → (J2 (0 : Int32))) ∧ (¬ r1 = 0 → (wp_X11_isState μ a1 a2 (fun (r11 : Int32) => (r11 = 0 → (J2 (0 : Int32))) ∧ (¬ r11 = 0 → (wp_X11_isState μ a1 a4 (fun (r15 : Int32) => (r15 = 0 → (J2 (0 : Int32))) ∧ (¬ r15 = 0 → (J2 (1 : Int32)))))))))))
set_option maxHeartbeats 4000000 in
set_option maxRecDepth 100000 in
theorem c_X11_isNoArrow {l : Launch} {D : va_G} {ad : Nat → Nat} {cI cL : ClassId}  (μ : TMem) (sz : Nat) (a1 : Int32) (a2 : Int32) (a3 : Int32) (a4 : Int32)  {Q : Int32 → TMem → Prop} (h : wp_X11_isNoArrow μ a1 a2 a3 a4 Q) : MMi l yX11_isNoArrow (.code yX11_isNoArrow cX11_isNoArrow 5 (Option.some Jvm.ClassFile.FieldType.boolean)) 2 0 0 [.ref (ad 0), .int a1, .int a2, .int a3, .int a4] D ad cI cL sz μ [] Q := by
  refine M_meti (by decide +kernel) (Nat.le_of_ble_eq_true rfl) ?_
  intro p e s m below meth c Z ls hx hb hml hown ht hK hP0 hI hne hw hret hl
  have hl : lv_has ls 5 [(0, .ref (ad 0)), (1, .int a1), (2, .int a2), (3, .int a3), (4, .int a4)] := hl
  suffices hh : ∀ (H : Heap) (locs : List Loc), MW D (MR ad cI μ) [] (MA ad s.heap.size) s H locs → W p l e (RA 2 0 0) s m #[.ref (ad 0), .int a1, .int a2, .int a3, .int a4] below meth c H locs 0 0 Z (F0 m 0 ls []) from hh _ _ hw
  intro H locs hw
  change wp_X11_isOne a1 (fun (r1 : Int32) => ∀ J2 : Int32 → Prop, (∀ (j3 : Int32), (wp_X11_isIn a3 (0 : Int32) (2 : Int32) (fun (r4 : Int32) => wp_X11_isThrown μ j3 r4 (fun (r6 : Int32) (μ5 : TMem) => isB r6 ∧ (Q r6 μ5)))) → J2 j3) → ((r1 = 0 → (J2 (0 : Int32))) ∧ (¬ r1 = 0 → (wp_X11_isState μ a1 a2 (fun (r11 : Int32) => (r11 = 0 → (J2 (0 : Int32))) ∧ (¬ r11 = 0 → (wp_X11_isState μ a1 a4 (fun (r15 : Int32) => (r15 = 0 → (J2 (0 : Int32))) ∧ (¬ r15 = 0 → (J2 (1 : Int32))))))))))) at h
  refine lv_aload_n hx hb dX11_isNoArrow_0 rfl (lv_at hl 0 rfl) ?_
  refine lv_iload_n hx hb dX11_isNoArrow_1 rfl (lv_at hl 1 rfl) ?_
  refine P_calli (va_runS (own := "LeastreaderModel") (As := [.int a1]) (rest := [.ref (ad 0)]) ⟨hx, hb, hml, hown, ht⟩ (c_X11_isOne a1 h) (va_cwS 1 ht (G_S q_1346 q_1347 q_56 q_1348) rfl rfl rfl hd_91 ⟨Nat.le_of_ble_eq_true rfl, Nat.le_of_ble_eq_true rfl⟩) ⟨PM_blind, PM_pre⟩ rfl rfl hl.1 rfl (lv_room (Nat.le_of_ble_eq_true rfl)) dX11_isNoArrow_2 ⟨show 0 + 0 ≤ 0 by omega, show 0 + 0 ≤ 0 by omega⟩) (fun r1 h => ?_)
  have h := h (fun (j3 : Int32) => ∀ (H : Heap) (locs : List Loc) (ls : Array Slot), MW D (MR ad cI μ) [] (MA ad s.heap.size) s H locs → lv_has ls 5 [(3, .int a3)] → W p l e (RA 2 0 0) s m #[.ref (ad 0), .int a1, .int a2, .int a3, .int a4] below meth c H locs 0 0 Z (F0 m 32 ls [.int j3, .ref (ad 0)])) (fun j3 h H locs ls hw hl => by
    refine lv_iload_n hx hb dX11_isNoArrow_32 rfl (lv_at hl 0 rfl) ?_
    refine lv_iconst (v := (0 : Int32)) hx hb dX11_isNoArrow_33 (by decide) ?_
    refine lv_iconst (v := (2 : Int32)) hx hb dX11_isNoArrow_34 (by decide) ?_
    refine P_calli (va_runS (own := "LeastreaderModel") (As := [.int a3, .int (0 : Int32), .int (2 : Int32)]) (rest := [.int j3, .ref (ad 0)]) ⟨hx, hb, hml, hown, ht⟩ (c_X11_isIn a3 (0 : Int32) (2 : Int32) h) (va_cwS 3 ht (G_S q_1349 q_1350 q_56 q_1351) rfl rfl rfl hd_78 ⟨Nat.le_of_ble_eq_true rfl, Nat.le_of_ble_eq_true rfl⟩) ⟨PM_blind, PM_pre⟩ rfl rfl hl.1 rfl (lv_room (Nat.le_of_ble_eq_true rfl)) dX11_isNoArrow_35 ⟨show 0 + 0 ≤ 0 by omega, show 0 + 0 ≤ 0 by omega⟩) (fun r4 h => ?_)
    refine M_calli hw (MA.up hw.2.2.1.1) (va_runV (own := "LeastreaderModel") (As := [.int j3, .int r4]) (rest := []) ⟨hx, hb, hml, hown, ht⟩ (c_X11_isThrown μ H.size j3 r4 h) (cwV 2 ht (G_V q_1352 q_1354 q_26 q_56 q_1355) rfl rfl rfl ⟨rfl, hd_92⟩ ⟨Nat.le_of_ble_eq_true rfl, Nat.le_of_ble_eq_true rfl⟩) ⟨MB.blind, M_recv hK hw, MB.pre hK hI hw va_P0 ne0⟩ rfl rfl hl.1 rfl (lv_room (Nat.le_of_ble_eq_true rfl)) dX11_isNoArrow_38 ⟨show 0 + 0 ≤ 0 by omega, show 0 + 0 ≤ 0 by omega⟩) (fun r6 μ5 H locs h hw => ?_)
    obtain ⟨z7, h⟩ := h
    exact hret H locs ls 41 _ _ _ _ _ hw h (isB_n z7) (show 0 ≤ 0 by omega) (show 0 ≤ 0 by omega) dX11_isNoArrow_41)
  refine lv_if_eq (tgt := 31) hx hb dX11_isNoArrow_5 (by decide) (fun c8 => ?_) (fun c8 => ?_)
  · have h := h.1 c8
    refine lv_iconst (v := (0 : Int32)) hx hb dX11_isNoArrow_31 (by decide) ?_
    exact h H locs ls hw (lv_sub hl [3] rfl)
  have h := h.2 c8
  refine lv_aload_n hx hb dX11_isNoArrow_8 rfl (lv_at hl 0 rfl) ?_
  refine lv_iload_n hx hb dX11_isNoArrow_9 rfl (lv_at hl 1 rfl) ?_
  refine lv_iload_n hx hb dX11_isNoArrow_10 rfl (lv_at hl 2 rfl) ?_
  refine M_calli hw (MA.up hw.2.2.1.1) (va_runV (own := "LeastreaderModel") (As := [.int a1, .int a2]) (rest := [.ref (ad 0)]) ⟨hx, hb, hml, hown, ht⟩ (c_X11_isState μ H.size a1 a2 h) (cwV 2 ht (G_V q_1380 q_1382 q_31 q_56 q_1383) rfl rfl rfl ⟨rfl, hd_96⟩ ⟨Nat.le_of_ble_eq_true rfl, Nat.le_of_ble_eq_true rfl⟩) ⟨MB.blind, M_recv hK hw, MB.pre hK hI hw va_P0 ne0⟩ rfl rfl hl.1 rfl (lv_room (Nat.le_of_ble_eq_true rfl)) dX11_isNoArrow_11 ⟨show 0 + 0 ≤ 0 by omega, show 0 + 0 ≤ 0 by omega⟩) (fun r11 μ9 H locs h hw => ?_)
  obtain ⟨e10, h⟩ := h
  rw [e10] at hw
  refine lv_if_eq (tgt := 31) hx hb dX11_isNoArrow_14 (by decide) (fun c12 => ?_) (fun c12 => ?_)
  · have h := h.1 c12
    refine lv_iconst (v := (0 : Int32)) hx hb dX11_isNoArrow_31 (by decide) ?_
    exact h H locs ls hw (lv_sub hl [3] rfl)
  have h := h.2 c12
  refine lv_aload_n hx hb dX11_isNoArrow_17 rfl (lv_at hl 0 rfl) ?_
  refine lv_iload_n hx hb dX11_isNoArrow_18 rfl (lv_at hl 1 rfl) ?_
  refine lv_iload hx hb dX11_isNoArrow_19 (lv_at hl 4 rfl) ?_
  refine M_calli hw (MA.up hw.2.2.1.1) (va_runV (own := "LeastreaderModel") (As := [.int a1, .int a4]) (rest := [.ref (ad 0)]) ⟨hx, hb, hml, hown, ht⟩ (c_X11_isState μ H.size a1 a4 h) (cwV 2 ht (G_V q_1380 q_1382 q_31 q_56 q_1383) rfl rfl rfl ⟨rfl, hd_96⟩ ⟨Nat.le_of_ble_eq_true rfl, Nat.le_of_ble_eq_true rfl⟩) ⟨MB.blind, M_recv hK hw, MB.pre hK hI hw va_P0 ne0⟩ rfl rfl hl.1 rfl (lv_room (Nat.le_of_ble_eq_true rfl)) dX11_isNoArrow_21 ⟨show 0 + 0 ≤ 0 by omega, show 0 + 0 ≤ 0 by omega⟩) (fun r15 μ13 H locs h hw => ?_)
  obtain ⟨e14, h⟩ := h
  rw [e14] at hw
  refine lv_if_eq (tgt := 31) hx hb dX11_isNoArrow_24 (by decide) (fun c16 => ?_) (fun c16 => ?_)
  · have h := h.1 c16
    refine lv_iconst (v := (0 : Int32)) hx hb dX11_isNoArrow_31 (by decide) ?_
    exact h H locs ls hw (lv_sub hl [3] rfl)
  have h := h.2 c16
  refine lv_iconst (v := (1 : Int32)) hx hb dX11_isNoArrow_27 (by decide) ?_
  refine lv_goto (tgt := 32) hx hb dX11_isNoArrow_28 (by decide) ?_
  exact h H locs ls hw (lv_sub hl [3] rfl)
def wp_X11_arrow (μ : TMem) (a1 : Int32) (a2 : Int32) (a3 : Int32) (a4 : Int32) (a5 : Int32) (Q : Int32 → TMem → Prop) : Prop :=
  wp_X11_isNoArrow μ a1 a2 a3 a4 (fun (r2 : Int32) (μ1 : TMem) => (r2 = 0 → (wp_X11_key a1 a2 a3 (fun (r4 : Int32) => vp_in r4 (ml 4) ∧ (∀ J6 : Int32 → Prop, (∀ (j7 : Int32), (vp_in r4 (ml 4) ∧ (vp_in r4 (ml 4) ∧ ((¬ (μ1 4 r4.toNatClampNeg) = ((tms μ1 4 r4.toNatClampNeg j7) 4 r4.toNatClampNeg) → (wp_X11_did (tms μ1 4 r4.toNatClampNeg j7) (1 : Int32) (fun (r12 : Int32) (μ11 : TMem) => Q r12 μ11))) ∧ ((μ1 4 r4.toNatClampNeg) = ((tms μ1 4 r4.toNatClampNeg j7) 4 r4.toNatClampNeg) → (wp_X11_did (tms μ1 4 r4.toNatClampNeg j7) (0 : Int32) (fun (r14 : Int32) (μ13 : TMem) => Q r14 μ13)))))) → J6 j7) → ((a5 = 0 → (J6 ((μ1 4 r4.toNatClampNeg) &&& (((1 : Int32) <<< (a4 &&& 31)) ^^^ (-1 : Int32))))) ∧ (¬ a5 = 0 → (J6 ((μ1 4 r4.toNatClampNeg) ||| ((1 : Int32) <<< (a4 &&& 31)))))))))) ∧ (¬ r2 = 0 → (Q (0 : Int32) μ1)))
set_option maxHeartbeats 4000000 in
set_option maxRecDepth 100000 in
theorem c_X11_arrow {l : Launch} {D : va_G} {ad : Nat → Nat} {cI cL : ClassId}  (μ : TMem) (sz : Nat) (a1 : Int32) (a2 : Int32) (a3 : Int32) (a4 : Int32) (a5 : Int32)  {Q : Int32 → TMem → Prop} (h : wp_X11_arrow μ a1 a2 a3 a4 a5 Q) : MMi l yX11_arrow (.code yX11_arrow cX11_arrow 8 (Option.some Jvm.ClassFile.FieldType.int)) 3 0 0 [.ref (ad 0), .int a1, .int a2, .int a3, .int a4, .int a5] D ad cI cL sz μ [] Q := by
  refine M_meti (by decide +kernel) (Nat.le_of_ble_eq_true rfl) ?_
  intro p e s m below meth c Z ls hx hb hml hown ht hK hP0 hI hne hw hret hl
  have hl : lv_has ls 8 [(0, .ref (ad 0)), (1, .int a1), (2, .int a2), (3, .int a3), (4, .int a4), (5, .int a5)] := hl
  suffices hh : ∀ (H : Heap) (locs : List Loc), MW D (MR ad cI μ) [] (MA ad s.heap.size) s H locs → W p l e (RA 3 0 0) s m #[.ref (ad 0), .int a1, .int a2, .int a3, .int a4, .int a5] below meth c H locs 0 0 Z (F0 m 0 ls []) from hh _ _ hw
  intro H locs hw
  change wp_X11_isNoArrow μ a1 a2 a3 a4 (fun (r2 : Int32) (μ1 : TMem) => (r2 = 0 → (wp_X11_key a1 a2 a3 (fun (r4 : Int32) => vp_in r4 (ml 4) ∧ (∀ J6 : Int32 → Prop, (∀ (j7 : Int32), (vp_in r4 (ml 4) ∧ (vp_in r4 (ml 4) ∧ ((¬ (μ1 4 r4.toNatClampNeg) = ((tms μ1 4 r4.toNatClampNeg j7) 4 r4.toNatClampNeg) → (wp_X11_did (tms μ1 4 r4.toNatClampNeg j7) (1 : Int32) (fun (r12 : Int32) (μ11 : TMem) => Q r12 μ11))) ∧ ((μ1 4 r4.toNatClampNeg) = ((tms μ1 4 r4.toNatClampNeg j7) 4 r4.toNatClampNeg) → (wp_X11_did (tms μ1 4 r4.toNatClampNeg j7) (0 : Int32) (fun (r14 : Int32) (μ13 : TMem) => Q r14 μ13)))))) → J6 j7) → ((a5 = 0 → (J6 ((μ1 4 r4.toNatClampNeg) &&& (((1 : Int32) <<< (a4 &&& 31)) ^^^ (-1 : Int32))))) ∧ (¬ a5 = 0 → (J6 ((μ1 4 r4.toNatClampNeg) ||| ((1 : Int32) <<< (a4 &&& 31)))))))))) ∧ (¬ r2 = 0 → (Q (0 : Int32) μ1))) at h
  refine lv_aload_n hx hb dX11_arrow_0 rfl (lv_at hl 0 rfl) ?_
  refine lv_iload_n hx hb dX11_arrow_1 rfl (lv_at hl 1 rfl) ?_
  refine lv_iload_n hx hb dX11_arrow_2 rfl (lv_at hl 2 rfl) ?_
  refine lv_iload_n hx hb dX11_arrow_3 rfl (lv_at hl 3 rfl) ?_
  refine lv_iload hx hb dX11_arrow_4 (lv_at hl 4 rfl) ?_
  refine M_calli hw (MA.up hw.2.2.1.1) (va_runV (own := "LeastreaderModel") (As := [.int a1, .int a2, .int a3, .int a4]) (rest := []) ⟨hx, hb, hml, hown, ht⟩ (c_X11_isNoArrow μ H.size a1 a2 a3 a4 h) (cwV 4 ht (G_V q_1376 q_1378 q_30 q_56 q_1379) rfl rfl rfl ⟨rfl, hd_97⟩ ⟨Nat.le_of_ble_eq_true rfl, Nat.le_of_ble_eq_true rfl⟩) ⟨MB.blind, M_recv hK hw, MB.pre hK hI hw va_P0 ne0⟩ rfl rfl hl.1 rfl (lv_room (Nat.le_of_ble_eq_true rfl)) dX11_arrow_6 ⟨show 0 + 0 ≤ 0 by omega, show 0 + 0 ≤ 0 by omega⟩) (fun r2 μ1 H locs h hw => ?_)
  refine lv_if_eq (tgt := 14) hx hb dX11_arrow_9 (by decide) (fun c3 => ?_) (fun c3 => ?_)
  · have h := h.1 c3
    refine lv_iload_n hx hb dX11_arrow_14 rfl (lv_at hl 1 rfl) ?_
    refine lv_iload_n hx hb dX11_arrow_15 rfl (lv_at hl 2 rfl) ?_
    refine lv_iload_n hx hb dX11_arrow_16 rfl (lv_at hl 3 rfl) ?_
    refine P_calli (va_runS (own := "LeastreaderModel") (As := [.int a1, .int a2, .int a3]) (rest := []) ⟨hx, hb, hml, hown, ht⟩ (c_X11_key a1 a2 a3 h) (va_cwS 3 ht (G_S q_1360 q_1361 q_56 q_1362) rfl rfl rfl hd_79 ⟨Nat.le_of_ble_eq_true rfl, Nat.le_of_ble_eq_true rfl⟩) ⟨PM_blind, PM_pre⟩ rfl rfl hl.1 rfl (lv_room (Nat.le_of_ble_eq_true rfl)) dX11_arrow_17 ⟨show 0 + 0 ≤ 0 by omega, show 0 + 0 ≤ 0 by omega⟩) (fun r4 h => ?_)
    refine lv_istore (lv' := [(6, .int r4), (0, .ref (ad 0)), (1, .int a1), (2, .int a2), (3, .int a3), (4, .int a4), (5, .int a5)]) hx hb dX11_arrow_20 hl (by decide) rfl (fun ls hl => ?_)
    refine lv_aload_n hx hb dX11_arrow_22 rfl (lv_at hl 1 rfl) ?_
    refine m_get (i := 3) hx hb ht hown hK hw (by decide) (ht _ q_1316) rfl rfl dX11_arrow_23 ?_
    refine lv_iload hx hb dX11_arrow_26 (lv_at hl 0 rfl) ?_
    obtain ⟨z5, h⟩ := h
    refine m_iald hx hb hK hw (by decide) z5 dX11_arrow_28 ?_
    refine lv_istore (lv' := [(7, .int (μ1 4 r4.toNatClampNeg)), (6, .int r4), (0, .ref (ad 0)), (1, .int a1), (2, .int a2), (3, .int a3), (4, .int a4), (5, .int a5)]) hx hb dX11_arrow_29 hl (by decide) rfl (fun ls hl => ?_)
    refine lv_aload_n hx hb dX11_arrow_31 rfl (lv_at hl 2 rfl) ?_
    refine m_get (i := 3) hx hb ht hown hK hw (by decide) (ht _ q_1316) rfl rfl dX11_arrow_32 ?_
    refine lv_iload hx hb dX11_arrow_35 (lv_at hl 1 rfl) ?_
    refine lv_iload hx hb dX11_arrow_37 (lv_at hl 7 rfl) ?_
    have h := h (fun (j7 : Int32) => ∀ (H : Heap) (locs : List Loc) (ls : Array Slot), MW D (MR ad cI μ1) [] (MA ad s.heap.size) s H locs → lv_has ls 8 [(7, .int (μ1 4 r4.toNatClampNeg)), (6, .int r4), (0, .ref (ad 0))] → W p l e (RA 3 0 0) s m #[.ref (ad 0), .int a1, .int a2, .int a3, .int a4, .int a5] below meth c H locs 0 0 Z (F0 m 61 ls [.int j7, .int r4, .ref (ad 4)])) (fun j7 h H locs ls hw hl => by
      obtain ⟨z8, h⟩ := h
      refine m_iast hx hb hK hw (by decide) z8 dX11_arrow_61 (fun H locs hw => ?_)
      refine lv_aload_n hx hb dX11_arrow_62 rfl (lv_at hl 2 rfl) ?_
      refine lv_iload hx hb dX11_arrow_63 (lv_at hl 0 rfl) ?_
      refine lv_aload_n hx hb dX11_arrow_65 rfl (lv_at hl 2 rfl) ?_
      refine m_get (i := 3) hx hb ht hown hK hw (by decide) (ht _ q_1316) rfl rfl dX11_arrow_66 ?_
      refine lv_iload hx hb dX11_arrow_69 (lv_at hl 1 rfl) ?_
      obtain ⟨z9, h⟩ := h
      refine m_iald hx hb hK hw (by decide) z9 dX11_arrow_71 ?_
      refine lv_icmp_ne (tgt := 79) hx hb dX11_arrow_72 (by decide) (fun c10 => ?_) (fun c10 => ?_)
      · have h := h.1 c10
        refine lv_iconst (v := (1 : Int32)) hx hb dX11_arrow_79 (by decide) ?_
        refine M_calli hw (MA.up hw.2.2.1.1) (va_runV (own := "LeastreaderModel") (As := [.int (1 : Int32)]) (rest := []) ⟨hx, hb, hml, hown, ht⟩ (c_X11_did (tms μ1 4 r4.toNatClampNeg j7) H.size (1 : Int32) h) (cwV 1 ht (G_V q_1368 q_1370 q_29 q_56 q_1371) rfl rfl rfl ⟨rfl, hd_95⟩ ⟨Nat.le_of_ble_eq_true rfl, Nat.le_of_ble_eq_true rfl⟩) ⟨MB.blind, M_recv hK hw, MB.pre hK hI hw va_P0 ne0⟩ rfl rfl hl.1 rfl (lv_room (Nat.le_of_ble_eq_true rfl)) dX11_arrow_80 ⟨show 0 + 0 ≤ 0 by omega, show 0 + 0 ≤ 0 by omega⟩) (fun r12 μ11 H locs h hw => ?_)
        exact hret H locs ls 83 _ _ _ _ _ hw h rfl (show 0 ≤ 0 by omega) (show 0 ≤ 0 by omega) dX11_arrow_83
      have h := h.2 c10
      refine lv_iconst (v := (0 : Int32)) hx hb dX11_arrow_75 (by decide) ?_
      refine lv_goto (tgt := 80) hx hb dX11_arrow_76 (by decide) ?_
      refine M_calli hw (MA.up hw.2.2.1.1) (va_runV (own := "LeastreaderModel") (As := [.int (0 : Int32)]) (rest := []) ⟨hx, hb, hml, hown, ht⟩ (c_X11_did (tms μ1 4 r4.toNatClampNeg j7) H.size (0 : Int32) h) (cwV 1 ht (G_V q_1368 q_1370 q_29 q_56 q_1371) rfl rfl rfl ⟨rfl, hd_95⟩ ⟨Nat.le_of_ble_eq_true rfl, Nat.le_of_ble_eq_true rfl⟩) ⟨MB.blind, M_recv hK hw, MB.pre hK hI hw va_P0 ne0⟩ rfl rfl hl.1 rfl (lv_room (Nat.le_of_ble_eq_true rfl)) dX11_arrow_80 ⟨show 0 + 0 ≤ 0 by omega, show 0 + 0 ≤ 0 by omega⟩) (fun r14 μ13 H locs h hw => ?_)
      exact hret H locs ls 83 _ _ _ _ _ hw h rfl (show 0 ≤ 0 by omega) (show 0 ≤ 0 by omega) dX11_arrow_83)
    refine lv_if_eq (tgt := 52) hx hb dX11_arrow_39 (by decide) (fun c15 => ?_) (fun c15 => ?_)
    · have h := h.1 c15
      refine lv_iload hx hb dX11_arrow_52 (lv_at hl 0 rfl) ?_
      refine lv_iconst (v := (1 : Int32)) hx hb dX11_arrow_54 (by decide) ?_
      refine lv_iload hx hb dX11_arrow_55 (lv_at hl 6 rfl) ?_
      refine lv_ishl hx hb dX11_arrow_57 ?_
      refine lv_iconst (v := (-1 : Int32)) hx hb dX11_arrow_58 (by decide) ?_
      refine lv_ixor hx hb dX11_arrow_59 ?_
      refine lv_iand hx hb dX11_arrow_60 ?_
      exact h H locs ls hw (lv_sub hl [0, 1, 2] rfl)
    have h := h.2 c15
    refine lv_iload hx hb dX11_arrow_42 (lv_at hl 0 rfl) ?_
    refine lv_iconst (v := (1 : Int32)) hx hb dX11_arrow_44 (by decide) ?_
    refine lv_iload hx hb dX11_arrow_45 (lv_at hl 6 rfl) ?_
    refine lv_ishl hx hb dX11_arrow_47 ?_
    refine lv_ior hx hb dX11_arrow_48 ?_
    refine lv_goto (tgt := 61) hx hb dX11_arrow_49 (by decide) ?_
    exact h H locs ls hw (lv_sub hl [0, 1, 2] rfl)
  have h := h.2 c3
  refine lv_iconst (v := (0 : Int32)) hx hb dX11_arrow_12 (by decide) ?_
  exact hret H locs ls 13 _ _ _ _ _ hw h rfl (show 0 ≤ 0 by omega) (show 0 ≤ 0 by omega) dX11_arrow_13
def wp_X11_lead (μ : TMem) (a1 : Int32) (a2 : Int32) (a3 : Int32) (a4 : Int32) (Q : Int32 → TMem → Prop) : Prop :=
  wp_X11_isNoArrow μ a1 a2 a3 a4 (fun (r2 : Int32) (μ1 : TMem) => (r2 = 0 → (wp_X11_key a1 a2 a3 (fun (r4 : Int32) => vp_in r4 (ml 4) ∧ (vp_in r4 (ml 4) ∧ (wp_J6_bitCount_0f7a4 (μ1 4 r4.toNatClampNeg) (fun (r7 : Int32) => wp_X11_did (tms μ1 4 r4.toNatClampNeg ((1 : Int32) <<< (a4 &&& 31))) r7 (fun (r9 : Int32) (μ8 : TMem) => Q r9 μ8))))))) ∧ (¬ r2 = 0 → (Q (0 : Int32) μ1)))
set_option maxHeartbeats 4000000 in
set_option maxRecDepth 100000 in
theorem c_X11_lead {l : Launch} {D : va_G} {ad : Nat → Nat} {cI cL : ClassId}  (μ : TMem) (sz : Nat) (a1 : Int32) (a2 : Int32) (a3 : Int32) (a4 : Int32)  {Q : Int32 → TMem → Prop} (h : wp_X11_lead μ a1 a2 a3 a4 Q) : MMi l yX11_lead (.code yX11_lead cX11_lead 7 (Option.some Jvm.ClassFile.FieldType.int)) 3 0 0 [.ref (ad 0), .int a1, .int a2, .int a3, .int a4] D ad cI cL sz μ [] Q := by
  refine M_meti (by decide +kernel) (Nat.le_of_ble_eq_true rfl) ?_
  intro p e s m below meth c Z ls hx hb hml hown ht hK hP0 hI hne hw hret hl
  have hl : lv_has ls 7 [(0, .ref (ad 0)), (1, .int a1), (2, .int a2), (3, .int a3), (4, .int a4)] := hl
  suffices hh : ∀ (H : Heap) (locs : List Loc), MW D (MR ad cI μ) [] (MA ad s.heap.size) s H locs → W p l e (RA 3 0 0) s m #[.ref (ad 0), .int a1, .int a2, .int a3, .int a4] below meth c H locs 0 0 Z (F0 m 0 ls []) from hh _ _ hw
  intro H locs hw
  change wp_X11_isNoArrow μ a1 a2 a3 a4 (fun (r2 : Int32) (μ1 : TMem) => (r2 = 0 → (wp_X11_key a1 a2 a3 (fun (r4 : Int32) => vp_in r4 (ml 4) ∧ (vp_in r4 (ml 4) ∧ (wp_J6_bitCount_0f7a4 (μ1 4 r4.toNatClampNeg) (fun (r7 : Int32) => wp_X11_did (tms μ1 4 r4.toNatClampNeg ((1 : Int32) <<< (a4 &&& 31))) r7 (fun (r9 : Int32) (μ8 : TMem) => Q r9 μ8))))))) ∧ (¬ r2 = 0 → (Q (0 : Int32) μ1))) at h
  refine lv_aload_n hx hb dX11_lead_0 rfl (lv_at hl 0 rfl) ?_
  refine lv_iload_n hx hb dX11_lead_1 rfl (lv_at hl 1 rfl) ?_
  refine lv_iload_n hx hb dX11_lead_2 rfl (lv_at hl 2 rfl) ?_
  refine lv_iload_n hx hb dX11_lead_3 rfl (lv_at hl 3 rfl) ?_
  refine lv_iload hx hb dX11_lead_4 (lv_at hl 4 rfl) ?_
  refine M_calli hw (MA.up hw.2.2.1.1) (va_runV (own := "LeastreaderModel") (As := [.int a1, .int a2, .int a3, .int a4]) (rest := []) ⟨hx, hb, hml, hown, ht⟩ (c_X11_isNoArrow μ H.size a1 a2 a3 a4 h) (cwV 4 ht (G_V q_1376 q_1378 q_30 q_56 q_1379) rfl rfl rfl ⟨rfl, hd_97⟩ ⟨Nat.le_of_ble_eq_true rfl, Nat.le_of_ble_eq_true rfl⟩) ⟨MB.blind, M_recv hK hw, MB.pre hK hI hw va_P0 ne0⟩ rfl rfl hl.1 rfl (lv_room (Nat.le_of_ble_eq_true rfl)) dX11_lead_6 ⟨show 0 + 0 ≤ 0 by omega, show 0 + 0 ≤ 0 by omega⟩) (fun r2 μ1 H locs h hw => ?_)
  refine lv_if_eq (tgt := 14) hx hb dX11_lead_9 (by decide) (fun c3 => ?_) (fun c3 => ?_)
  · have h := h.1 c3
    refine lv_iload_n hx hb dX11_lead_14 rfl (lv_at hl 1 rfl) ?_
    refine lv_iload_n hx hb dX11_lead_15 rfl (lv_at hl 2 rfl) ?_
    refine lv_iload_n hx hb dX11_lead_16 rfl (lv_at hl 3 rfl) ?_
    refine P_calli (va_runS (own := "LeastreaderModel") (As := [.int a1, .int a2, .int a3]) (rest := []) ⟨hx, hb, hml, hown, ht⟩ (c_X11_key a1 a2 a3 h) (va_cwS 3 ht (G_S q_1360 q_1361 q_56 q_1362) rfl rfl rfl hd_79 ⟨Nat.le_of_ble_eq_true rfl, Nat.le_of_ble_eq_true rfl⟩) ⟨PM_blind, PM_pre⟩ rfl rfl hl.1 rfl (lv_room (Nat.le_of_ble_eq_true rfl)) dX11_lead_17 ⟨show 0 + 0 ≤ 0 by omega, show 0 + 0 ≤ 0 by omega⟩) (fun r4 h => ?_)
    refine lv_istore (lv' := [(5, .int r4), (0, .ref (ad 0)), (1, .int a1), (2, .int a2), (3, .int a3), (4, .int a4)]) hx hb dX11_lead_20 hl (by decide) rfl (fun ls hl => ?_)
    refine lv_aload_n hx hb dX11_lead_22 rfl (lv_at hl 1 rfl) ?_
    refine m_get (i := 3) hx hb ht hown hK hw (by decide) (ht _ q_1316) rfl rfl dX11_lead_23 ?_
    refine lv_iload hx hb dX11_lead_26 (lv_at hl 0 rfl) ?_
    obtain ⟨z5, h⟩ := h
    refine m_iald hx hb hK hw (by decide) z5 dX11_lead_28 ?_
    refine lv_istore (lv' := [(6, .int (μ1 4 r4.toNatClampNeg)), (5, .int r4), (0, .ref (ad 0)), (1, .int a1), (2, .int a2), (3, .int a3), (4, .int a4)]) hx hb dX11_lead_29 hl (by decide) rfl (fun ls hl => ?_)
    refine lv_aload_n hx hb dX11_lead_31 rfl (lv_at hl 2 rfl) ?_
    refine m_get (i := 3) hx hb ht hown hK hw (by decide) (ht _ q_1316) rfl rfl dX11_lead_32 ?_
    refine lv_iload hx hb dX11_lead_35 (lv_at hl 1 rfl) ?_
    refine lv_iconst (v := (1 : Int32)) hx hb dX11_lead_37 (by decide) ?_
    refine lv_iload hx hb dX11_lead_38 (lv_at hl 6 rfl) ?_
    refine lv_ishl hx hb dX11_lead_40 ?_
    obtain ⟨z6, h⟩ := h
    refine m_iast hx hb hK hw (by decide) z6 dX11_lead_41 (fun H locs hw => ?_)
    refine lv_aload_n hx hb dX11_lead_42 rfl (lv_at hl 2 rfl) ?_
    refine lv_iload hx hb dX11_lead_43 (lv_at hl 0 rfl) ?_
    refine P_calli (va_runS (own := "LeastreaderModel") (As := [.int (μ1 4 r4.toNatClampNeg)]) (rest := [.ref (ad 0)]) ⟨hx, hb, hml, hown, ht⟩ (c_J6_bitCount_0f7a4 (μ1 4 r4.toNatClampNeg) h) (va_cwS 1 ht (G_S q_1363 q_564 q_63 q_565) rfl rfl rfl hd_33 ⟨Nat.le_of_ble_eq_true rfl, Nat.le_of_ble_eq_true rfl⟩) ⟨PM_blind, PM_pre⟩ rfl rfl hl.1 rfl (lv_room (Nat.le_of_ble_eq_true rfl)) dX11_lead_45 ⟨show 0 + 0 ≤ 0 by omega, show 0 + 0 ≤ 0 by omega⟩) (fun r7 h => ?_)
    refine M_calli hw (MA.up hw.2.2.1.1) (va_runV (own := "LeastreaderModel") (As := [.int r7]) (rest := []) ⟨hx, hb, hml, hown, ht⟩ (c_X11_did (tms μ1 4 r4.toNatClampNeg ((1 : Int32) <<< (a4 &&& 31))) H.size r7 h) (cwV 1 ht (G_V q_1368 q_1370 q_29 q_56 q_1371) rfl rfl rfl ⟨rfl, hd_95⟩ ⟨Nat.le_of_ble_eq_true rfl, Nat.le_of_ble_eq_true rfl⟩) ⟨MB.blind, M_recv hK hw, MB.pre hK hI hw va_P0 ne0⟩ rfl rfl hl.1 rfl (lv_room (Nat.le_of_ble_eq_true rfl)) dX11_lead_48 ⟨show 0 + 0 ≤ 0 by omega, show 0 + 0 ≤ 0 by omega⟩) (fun r9 μ8 H locs h hw => ?_)
    exact hret H locs ls 51 _ _ _ _ _ hw h rfl (show 0 ≤ 0 by omega) (show 0 ≤ 0 by omega) dX11_lead_51
  have h := h.2 c3
  refine lv_iconst (v := (0 : Int32)) hx hb dX11_lead_12 (by decide) ?_
  exact hret H locs ls 13 _ _ _ _ _ hw h rfl (show 0 ≤ 0 by omega) (show 0 ≤ 0 by omega) dX11_lead_13
def wp_X11_mark (μ : TMem) (a1 : Int32) (a2 : Int32) (a3 : Int32) (a4 : Int32) (Q : Int32 → TMem → Prop) : Prop :=
  wp_X11_isOne a1 (fun (r1 : Int32) => (r1 = 0 → (wp_X11_isThrown μ (0 : Int32) (1 : Int32) (fun (r4 : Int32) (μ3 : TMem) => (r4 = 0 → ((a3 = 0 → (vp_in a1 (ml 2) ∧ ((a4 = 0 → (vp_in a1 (ml 2) ∧ (vp_in a1 (ml 2) ∧ ((¬ (μ3 2 a1.toNatClampNeg) = ((tms μ3 2 a1.toNatClampNeg ((μ3 2 a1.toNatClampNeg) &&& (((1 : Int32) <<< (a2 &&& 31)) ^^^ (-1 : Int32)))) 2 a1.toNatClampNeg) → (wp_X11_did (tms μ3 2 a1.toNatClampNeg ((μ3 2 a1.toNatClampNeg) &&& (((1 : Int32) <<< (a2 &&& 31)) ^^^ (-1 : Int32)))) (1 : Int32) (fun (r13 : Int32) (μ12 : TMem) => Q r13 μ12))) ∧ ((μ3 2 a1.toNatClampNeg) = ((tms μ3 2 a1.toNatClampNeg ((μ3 2 a1.toNatClampNeg) &&& (((1 : Int32) <<< (a2 &&& 31)) ^^^ (-1 : Int32)))) 2 a1.toNatClampNeg) → (wp_X11_did (tms μ3 2 a1.toNatClampNeg ((μ3 2 a1.toNatClampNeg) &&& (((1 : Int32) <<< (a2 &&& 31)) ^^^ (-1 : Int32)))) (0 : Int32) (fun (r15 : Int32) (μ14 : TMem) => Q r15 μ14))))))) ∧ (¬ a4 = 0 → (vp_in a1 (ml 2) ∧ (vp_in a1 (ml 2) ∧ ((¬ (μ3 2 a1.toNatClampNeg) = ((tms μ3 2 a1.toNatClampNeg ((μ3 2 a1.toNatClampNeg) ||| ((1 : Int32) <<< (a2 &&& 31)))) 2 a1.toNatClampNeg) → (wp_X11_did (tms μ3 2 a1.toNatClampNeg ((μ3 2 a1.toNatClampNeg) ||| ((1 : Int32) <<< (a2 &&& 31)))) (1 : Int32) (fun (r20 : Int32) (μ19 : TMem) => Q r20 μ19))) ∧ ((μ3 2 a1.toNatClampNeg) = ((tms μ3 2 a1.toNatClampNeg ((μ3 2 a1.toNatClampNeg) ||| ((1 : Int32) <<< (a2 &&& 31)))) 2 a1.toNatClampNeg) → (wp_X11_did (tms μ3 2 a1.toNatClampNeg ((μ3 2 a1.toNatClampNeg) ||| ((1 : Int32) <<< (a2 &&& 31)))) (0 : Int32) (fun (r22 : Int32) (μ21 : TMem) => Q r22 μ21)))))))))) ∧ (¬ a3 = 0 → (vp_in a1 (ml 3) ∧ ((a4 = 0 → (vp_in a1 (ml 3) ∧ (vp_in a1 (ml 3) ∧ ((¬ (μ3 3 a1.toNatClampNeg) = ((tms μ3 3 a1.toNatClampNeg ((μ3 3 a1.toNatClampNeg) &&& (((1 : Int32) <<< (a2 &&& 31)) ^^^ (-1 : Int32)))) 3 a1.toNatClampNeg) → (wp_X11_did (tms μ3 3 a1.toNatClampNeg ((μ3 3 a1.toNatClampNeg) &&& (((1 : Int32) <<< (a2 &&& 31)) ^^^ (-1 : Int32)))) (1 : Int32) (fun (r29 : Int32) (μ28 : TMem) => Q r29 μ28))) ∧ ((μ3 3 a1.toNatClampNeg) = ((tms μ3 3 a1.toNatClampNeg ((μ3 3 a1.toNatClampNeg) &&& (((1 : Int32) <<< (a2 &&& 31)) ^^^ (-1 : Int32)))) 3 a1.toNatClampNeg) → (wp_X11_did (tms μ3 3 a1.toNatClampNeg ((μ3 3 a1.toNatClampNeg) &&& (((1 : Int32) <<< (a2 &&& 31)) ^^^ (-1 : Int32)))) (0 : Int32) (fun (r31 : Int32) (μ30 : TMem) => Q r31 μ30))))))) ∧ (¬ a4 = 0 → (vp_in a1 (ml 3) ∧ (vp_in a1 (ml 3) ∧ ((¬ (μ3 3 a1.toNatClampNeg) = ((tms μ3 3 a1.toNatClampNeg ((μ3 3 a1.toNatClampNeg) ||| ((1 : Int32) <<< (a2 &&& 31)))) 3 a1.toNatClampNeg) → (wp_X11_did (tms μ3 3 a1.toNatClampNeg ((μ3 3 a1.toNatClampNeg) ||| ((1 : Int32) <<< (a2 &&& 31)))) (1 : Int32) (fun (r36 : Int32) (μ35 : TMem) => Q r36 μ35))) ∧ ((μ3 3 a1.toNatClampNeg) = ((tms μ3 3 a1.toNatClampNeg ((μ3 3 a1.toNatClampNeg) ||| ((1 : Int32) <<< (a2 &&& 31)))) 3 a1.toNatClampNeg) → (wp_X11_did (tms μ3 3 a1.toNatClampNeg ((μ3 3 a1.toNatClampNeg) ||| ((1 : Int32) <<< (a2 &&& 31)))) (0 : Int32) (fun (r38 : Int32) (μ37 : TMem) => Q r38 μ37)))))))))))) ∧ (¬ r4 = 0 → (Q (0 : Int32) μ3))))) ∧ (¬ r1 = 0 → (wp_X11_isState μ a1 a2 (fun (r41 : Int32) => (r41 = 0 → (wp_X11_isThrown μ (0 : Int32) (1 : Int32) (fun (r44 : Int32) (μ43 : TMem) => (r44 = 0 → ((a3 = 0 → (vp_in a1 (ml 2) ∧ ((a4 = 0 → (vp_in a1 (ml 2) ∧ (vp_in a1 (ml 2) ∧ ((¬ (μ43 2 a1.toNatClampNeg) = ((tms μ43 2 a1.toNatClampNeg ((μ43 2 a1.toNatClampNeg) &&& (((1 : Int32) <<< (a2 &&& 31)) ^^^ (-1 : Int32)))) 2 a1.toNatClampNeg) → (wp_X11_did (tms μ43 2 a1.toNatClampNeg ((μ43 2 a1.toNatClampNeg) &&& (((1 : Int32) <<< (a2 &&& 31)) ^^^ (-1 : Int32)))) (1 : Int32) (fun (r53 : Int32) (μ52 : TMem) => Q r53 μ52))) ∧ ((μ43 2 a1.toNatClampNeg) = ((tms μ43 2 a1.toNatClampNeg ((μ43 2 a1.toNatClampNeg) &&& (((1 : Int32) <<< (a2 &&& 31)) ^^^ (-1 : Int32)))) 2 a1.toNatClampNeg) → (wp_X11_did (tms μ43 2 a1.toNatClampNeg ((μ43 2 a1.toNatClampNeg) &&& (((1 : Int32) <<< (a2 &&& 31)) ^^^ (-1 : Int32)))) (0 : Int32) (fun (r55 : Int32) (μ54 : TMem) => Q r55 μ54))))))) ∧ (¬ a4 = 0 → (vp_in a1 (ml 2) ∧ (vp_in a1 (ml 2) ∧ ((¬ (μ43 2 a1.toNatClampNeg) = ((tms μ43 2 a1.toNatClampNeg ((μ43 2 a1.toNatClampNeg) ||| ((1 : Int32) <<< (a2 &&& 31)))) 2 a1.toNatClampNeg) → (wp_X11_did (tms μ43 2 a1.toNatClampNeg ((μ43 2 a1.toNatClampNeg) ||| ((1 : Int32) <<< (a2 &&& 31)))) (1 : Int32) (fun (r60 : Int32) (μ59 : TMem) => Q r60 μ59))) ∧ ((μ43 2 a1.toNatClampNeg) = ((tms μ43 2 a1.toNatClampNeg ((μ43 2 a1.toNatClampNeg) ||| ((1 : Int32) <<< (a2 &&& 31)))) 2 a1.toNatClampNeg) → (wp_X11_did (tms μ43 2 a1.toNatClampNeg ((μ43 2 a1.toNatClampNeg) ||| ((1 : Int32) <<< (a2 &&& 31)))) (0 : Int32) (fun (r62 : Int32) (μ61 : TMem) => Q r62 μ61)))))))))) ∧ (¬ a3 = 0 → (vp_in a1 (ml 3) ∧ ((a4 = 0 → (vp_in a1 (ml 3) ∧ (vp_in a1 (ml 3) ∧ ((¬ (μ43 3 a1.toNatClampNeg) = ((tms μ43 3 a1.toNatClampNeg ((μ43 3 a1.toNatClampNeg) &&& (((1 : Int32) <<< (a2 &&& 31)) ^^^ (-1 : Int32)))) 3 a1.toNatClampNeg) → (wp_X11_did (tms μ43 3 a1.toNatClampNeg ((μ43 3 a1.toNatClampNeg) &&& (((1 : Int32) <<< (a2 &&& 31)) ^^^ (-1 : Int32)))) (1 : Int32) (fun (r69 : Int32) (μ68 : TMem) => Q r69 μ68))) ∧ ((μ43 3 a1.toNatClampNeg) = ((tms μ43 3 a1.toNatClampNeg ((μ43 3 a1.toNatClampNeg) &&& (((1 : Int32) <<< (a2 &&& 31)) ^^^ (-1 : Int32)))) 3 a1.toNatClampNeg) → (wp_X11_did (tms μ43 3 a1.toNatClampNeg ((μ43 3 a1.toNatClampNeg) &&& (((1 : Int32) <<< (a2 &&& 31)) ^^^ (-1 : Int32)))) (0 : Int32) (fun (r71 : Int32) (μ70 : TMem) => Q r71 μ70))))))) ∧ (¬ a4 = 0 → (vp_in a1 (ml 3) ∧ (vp_in a1 (ml 3) ∧ ((¬ (μ43 3 a1.toNatClampNeg) = ((tms μ43 3 a1.toNatClampNeg ((μ43 3 a1.toNatClampNeg) ||| ((1 : Int32) <<< (a2 &&& 31)))) 3 a1.toNatClampNeg) → (wp_X11_did (tms μ43 3 a1.toNatClampNeg ((μ43 3 a1.toNatClampNeg) ||| ((1 : Int32) <<< (a2 &&& 31)))) (1 : Int32) (fun (r76 : Int32) (μ75 : TMem) => Q r76 μ75))) ∧ ((μ43 3 a1.toNatClampNeg) = ((tms μ43 3 a1.toNatClampNeg ((μ43 3 a1.toNatClampNeg) ||| ((1 : Int32) <<< (a2 &&& 31)))) 3 a1.toNatClampNeg) → (wp_X11_did (tms μ43 3 a1.toNatClampNeg ((μ43 3 a1.toNatClampNeg) ||| ((1 : Int32) <<< (a2 &&& 31)))) (0 : Int32) (fun (r78 : Int32) (μ77 : TMem) => Q r78 μ77)))))))))))) ∧ (¬ r44 = 0 → (Q (0 : Int32) μ43))))) ∧ (¬ r41 = 0 → (wp_X11_isThrown μ (1 : Int32) (1 : Int32) (fun (r80 : Int32) (μ79 : TMem) => (r80 = 0 → ((a3 = 0 → (vp_in a1 (ml 2) ∧ ((a4 = 0 → (vp_in a1 (ml 2) ∧ (vp_in a1 (ml 2) ∧ ((¬ (μ79 2 a1.toNatClampNeg) = ((tms μ79 2 a1.toNatClampNeg ((μ79 2 a1.toNatClampNeg) &&& (((1 : Int32) <<< (a2 &&& 31)) ^^^ (-1 : Int32)))) 2 a1.toNatClampNeg) → (wp_X11_did (tms μ79 2 a1.toNatClampNeg ((μ79 2 a1.toNatClampNeg) &&& (((1 : Int32) <<< (a2 &&& 31)) ^^^ (-1 : Int32)))) (1 : Int32) (fun (r89 : Int32) (μ88 : TMem) => Q r89 μ88))) ∧ ((μ79 2 a1.toNatClampNeg) = ((tms μ79 2 a1.toNatClampNeg ((μ79 2 a1.toNatClampNeg) &&& (((1 : Int32) <<< (a2 &&& 31)) ^^^ (-1 : Int32)))) 2 a1.toNatClampNeg) → (wp_X11_did (tms μ79 2 a1.toNatClampNeg ((μ79 2 a1.toNatClampNeg) &&& (((1 : Int32) <<< (a2 &&& 31)) ^^^ (-1 : Int32)))) (0 : Int32) (fun (r91 : Int32) (μ90 : TMem) => Q r91 μ90))))))) ∧ (¬ a4 = 0 → (vp_in a1 (ml 2) ∧ (vp_in a1 (ml 2) ∧ ((¬ (μ79 2 a1.toNatClampNeg) = ((tms μ79 2 a1.toNatClampNeg ((μ79 2 a1.toNatClampNeg) ||| ((1 : Int32) <<< (a2 &&& 31)))) 2 a1.toNatClampNeg) → (wp_X11_did (tms μ79 2 a1.toNatClampNeg ((μ79 2 a1.toNatClampNeg) ||| ((1 : Int32) <<< (a2 &&& 31)))) (1 : Int32) (fun (r96 : Int32) (μ95 : TMem) => Q r96 μ95))) ∧ ((μ79 2 a1.toNatClampNeg) = ((tms μ79 2 a1.toNatClampNeg ((μ79 2 a1.toNatClampNeg) ||| ((1 : Int32) <<< (a2 &&& 31)))) 2 a1.toNatClampNeg) → (wp_X11_did (tms μ79 2 a1.toNatClampNeg ((μ79 2 a1.toNatClampNeg) ||| ((1 : Int32) <<< (a2 &&& 31)))) (0 : Int32) (fun (r98 : Int32) (μ97 : TMem) => Q r98 μ97)))))))))) ∧ (¬ a3 = 0 → (vp_in a1 (ml 3) ∧ ((a4 = 0 → (vp_in a1 (ml 3) ∧ (vp_in a1 (ml 3) ∧ ((¬ (μ79 3 a1.toNatClampNeg) = ((tms μ79 3 a1.toNatClampNeg ((μ79 3 a1.toNatClampNeg) &&& (((1 : Int32) <<< (a2 &&& 31)) ^^^ (-1 : Int32)))) 3 a1.toNatClampNeg) → (wp_X11_did (tms μ79 3 a1.toNatClampNeg ((μ79 3 a1.toNatClampNeg) &&& (((1 : Int32) <<< (a2 &&& 31)) ^^^ (-1 : Int32)))) (1 : Int32) (fun (r105 : Int32) (μ104 : TMem) => Q r105 μ104))) ∧ ((μ79 3 a1.toNatClampNeg) = ((tms μ79 3 a1.toNatClampNeg ((μ79 3 a1.toNatClampNeg) &&& (((1 : Int32) <<< (a2 &&& 31)) ^^^ (-1 : Int32)))) 3 a1.toNatClampNeg) → (wp_X11_did (tms μ79 3 a1.toNatClampNeg ((μ79 3 a1.toNatClampNeg) &&& (((1 : Int32) <<< (a2 &&& 31)) ^^^ (-1 : Int32)))) (0 : Int32) (fun (r107 : Int32) (μ106 : TMem) => Q r107 μ106))))))) ∧ (¬ a4 = 0 → (vp_in a1 (ml 3) ∧ (vp_in a1 (ml 3) ∧ ((¬ (μ79 3 a1.toNatClampNeg) = ((tms μ79 3 a1.toNatClampNeg ((μ79 3 a1.toNatClampNeg) ||| ((1 : Int32) <<< (a2 &&& 31)))) 3 a1.toNatClampNeg) → (wp_X11_did (tms μ79 3 a1.toNatClampNeg ((μ79 3 a1.toNatClampNeg) ||| ((1 : Int32) <<< (a2 &&& 31)))) (1 : Int32) (fun (r112 : Int32) (μ111 : TMem) => Q r112 μ111))) ∧ ((μ79 3 a1.toNatClampNeg) = ((tms μ79 3 a1.toNatClampNeg ((μ79 3 a1.toNatClampNeg) ||| ((1 : Int32) <<< (a2 &&& 31)))) 3 a1.toNatClampNeg) → (wp_X11_did (tms μ79 3 a1.toNatClampNeg ((μ79 3 a1.toNatClampNeg) ||| ((1 : Int32) <<< (a2 &&& 31)))) (0 : Int32) (fun (r114 : Int32) (μ113 : TMem) => Q r114 μ113)))))))))))) ∧ (¬ r80 = 0 → (Q (0 : Int32) μ79)))))))))
set_option maxHeartbeats 4000000 in
set_option maxRecDepth 100000 in
theorem c_X11_mark {l : Launch} {D : va_G} {ad : Nat → Nat} {cI cL : ClassId}  (μ : TMem) (sz : Nat) (a1 : Int32) (a2 : Int32) (a3 : Int32) (a4 : Int32)  {Q : Int32 → TMem → Prop} (h : wp_X11_mark μ a1 a2 a3 a4 Q) : MMi l yX11_mark (.code yX11_mark cX11_mark 7 (Option.some Jvm.ClassFile.FieldType.int)) 2 0 0 [.ref (ad 0), .int a1, .int a2, .int a3, .int a4] D ad cI cL sz μ [] Q := by
  refine M_meti (by decide +kernel) (Nat.le_of_ble_eq_true rfl) ?_
  intro p e s m below meth c Z ls hx hb hml hown ht hK hP0 hI hne hw hret hl
  have hl : lv_has ls 7 [(0, .ref (ad 0)), (1, .int a1), (2, .int a2), (3, .int a3), (4, .int a4)] := hl
  suffices hh : ∀ (H : Heap) (locs : List Loc), MW D (MR ad cI μ) [] (MA ad s.heap.size) s H locs → W p l e (RA 2 0 0) s m #[.ref (ad 0), .int a1, .int a2, .int a3, .int a4] below meth c H locs 0 0 Z (F0 m 0 ls []) from hh _ _ hw
  intro H locs hw
  change wp_X11_isOne a1 (fun (r1 : Int32) => (r1 = 0 → (wp_X11_isThrown μ (0 : Int32) (1 : Int32) (fun (r4 : Int32) (μ3 : TMem) => (r4 = 0 → ((a3 = 0 → (vp_in a1 (ml 2) ∧ ((a4 = 0 → (vp_in a1 (ml 2) ∧ (vp_in a1 (ml 2) ∧ ((¬ (μ3 2 a1.toNatClampNeg) = ((tms μ3 2 a1.toNatClampNeg ((μ3 2 a1.toNatClampNeg) &&& (((1 : Int32) <<< (a2 &&& 31)) ^^^ (-1 : Int32)))) 2 a1.toNatClampNeg) → (wp_X11_did (tms μ3 2 a1.toNatClampNeg ((μ3 2 a1.toNatClampNeg) &&& (((1 : Int32) <<< (a2 &&& 31)) ^^^ (-1 : Int32)))) (1 : Int32) (fun (r13 : Int32) (μ12 : TMem) => Q r13 μ12))) ∧ ((μ3 2 a1.toNatClampNeg) = ((tms μ3 2 a1.toNatClampNeg ((μ3 2 a1.toNatClampNeg) &&& (((1 : Int32) <<< (a2 &&& 31)) ^^^ (-1 : Int32)))) 2 a1.toNatClampNeg) → (wp_X11_did (tms μ3 2 a1.toNatClampNeg ((μ3 2 a1.toNatClampNeg) &&& (((1 : Int32) <<< (a2 &&& 31)) ^^^ (-1 : Int32)))) (0 : Int32) (fun (r15 : Int32) (μ14 : TMem) => Q r15 μ14))))))) ∧ (¬ a4 = 0 → (vp_in a1 (ml 2) ∧ (vp_in a1 (ml 2) ∧ ((¬ (μ3 2 a1.toNatClampNeg) = ((tms μ3 2 a1.toNatClampNeg ((μ3 2 a1.toNatClampNeg) ||| ((1 : Int32) <<< (a2 &&& 31)))) 2 a1.toNatClampNeg) → (wp_X11_did (tms μ3 2 a1.toNatClampNeg ((μ3 2 a1.toNatClampNeg) ||| ((1 : Int32) <<< (a2 &&& 31)))) (1 : Int32) (fun (r20 : Int32) (μ19 : TMem) => Q r20 μ19))) ∧ ((μ3 2 a1.toNatClampNeg) = ((tms μ3 2 a1.toNatClampNeg ((μ3 2 a1.toNatClampNeg) ||| ((1 : Int32) <<< (a2 &&& 31)))) 2 a1.toNatClampNeg) → (wp_X11_did (tms μ3 2 a1.toNatClampNeg ((μ3 2 a1.toNatClampNeg) ||| ((1 : Int32) <<< (a2 &&& 31)))) (0 : Int32) (fun (r22 : Int32) (μ21 : TMem) => Q r22 μ21)))))))))) ∧ (¬ a3 = 0 → (vp_in a1 (ml 3) ∧ ((a4 = 0 → (vp_in a1 (ml 3) ∧ (vp_in a1 (ml 3) ∧ ((¬ (μ3 3 a1.toNatClampNeg) = ((tms μ3 3 a1.toNatClampNeg ((μ3 3 a1.toNatClampNeg) &&& (((1 : Int32) <<< (a2 &&& 31)) ^^^ (-1 : Int32)))) 3 a1.toNatClampNeg) → (wp_X11_did (tms μ3 3 a1.toNatClampNeg ((μ3 3 a1.toNatClampNeg) &&& (((1 : Int32) <<< (a2 &&& 31)) ^^^ (-1 : Int32)))) (1 : Int32) (fun (r29 : Int32) (μ28 : TMem) => Q r29 μ28))) ∧ ((μ3 3 a1.toNatClampNeg) = ((tms μ3 3 a1.toNatClampNeg ((μ3 3 a1.toNatClampNeg) &&& (((1 : Int32) <<< (a2 &&& 31)) ^^^ (-1 : Int32)))) 3 a1.toNatClampNeg) → (wp_X11_did (tms μ3 3 a1.toNatClampNeg ((μ3 3 a1.toNatClampNeg) &&& (((1 : Int32) <<< (a2 &&& 31)) ^^^ (-1 : Int32)))) (0 : Int32) (fun (r31 : Int32) (μ30 : TMem) => Q r31 μ30))))))) ∧ (¬ a4 = 0 → (vp_in a1 (ml 3) ∧ (vp_in a1 (ml 3) ∧ ((¬ (μ3 3 a1.toNatClampNeg) = ((tms μ3 3 a1.toNatClampNeg ((μ3 3 a1.toNatClampNeg) ||| ((1 : Int32) <<< (a2 &&& 31)))) 3 a1.toNatClampNeg) → (wp_X11_did (tms μ3 3 a1.toNatClampNeg ((μ3 3 a1.toNatClampNeg) ||| ((1 : Int32) <<< (a2 &&& 31)))) (1 : Int32) (fun (r36 : Int32) (μ35 : TMem) => Q r36 μ35))) ∧ ((μ3 3 a1.toNatClampNeg) = ((tms μ3 3 a1.toNatClampNeg ((μ3 3 a1.toNatClampNeg) ||| ((1 : Int32) <<< (a2 &&& 31)))) 3 a1.toNatClampNeg) → (wp_X11_did (tms μ3 3 a1.toNatClampNeg ((μ3 3 a1.toNatClampNeg) ||| ((1 : Int32) <<< (a2 &&& 31)))) (0 : Int32) (fun (r38 : Int32) (μ37 : TMem) => Q r38 μ37)))))))))))) ∧ (¬ r4 = 0 → (Q (0 : Int32) μ3))))) ∧ (¬ r1 = 0 → (wp_X11_isState μ a1 a2 (fun (r41 : Int32) => (r41 = 0 → (wp_X11_isThrown μ (0 : Int32) (1 : Int32) (fun (r44 : Int32) (μ43 : TMem) => (r44 = 0 → ((a3 = 0 → (vp_in a1 (ml 2) ∧ ((a4 = 0 → (vp_in a1 (ml 2) ∧ (vp_in a1 (ml 2) ∧ ((¬ (μ43 2 a1.toNatClampNeg) = ((tms μ43 2 a1.toNatClampNeg ((μ43 2 a1.toNatClampNeg) &&& (((1 : Int32) <<< (a2 &&& 31)) ^^^ (-1 : Int32)))) 2 a1.toNatClampNeg) → (wp_X11_did (tms μ43 2 a1.toNatClampNeg ((μ43 2 a1.toNatClampNeg) &&& (((1 : Int32) <<< (a2 &&& 31)) ^^^ (-1 : Int32)))) (1 : Int32) (fun (r53 : Int32) (μ52 : TMem) => Q r53 μ52))) ∧ ((μ43 2 a1.toNatClampNeg) = ((tms μ43 2 a1.toNatClampNeg ((μ43 2 a1.toNatClampNeg) &&& (((1 : Int32) <<< (a2 &&& 31)) ^^^ (-1 : Int32)))) 2 a1.toNatClampNeg) → (wp_X11_did (tms μ43 2 a1.toNatClampNeg ((μ43 2 a1.toNatClampNeg) &&& (((1 : Int32) <<< (a2 &&& 31)) ^^^ (-1 : Int32)))) (0 : Int32) (fun (r55 : Int32) (μ54 : TMem) => Q r55 μ54))))))) ∧ (¬ a4 = 0 → (vp_in a1 (ml 2) ∧ (vp_in a1 (ml 2) ∧ ((¬ (μ43 2 a1.toNatClampNeg) = ((tms μ43 2 a1.toNatClampNeg ((μ43 2 a1.toNatClampNeg) ||| ((1 : Int32) <<< (a2 &&& 31)))) 2 a1.toNatClampNeg) → (wp_X11_did (tms μ43 2 a1.toNatClampNeg ((μ43 2 a1.toNatClampNeg) ||| ((1 : Int32) <<< (a2 &&& 31)))) (1 : Int32) (fun (r60 : Int32) (μ59 : TMem) => Q r60 μ59))) ∧ ((μ43 2 a1.toNatClampNeg) = ((tms μ43 2 a1.toNatClampNeg ((μ43 2 a1.toNatClampNeg) ||| ((1 : Int32) <<< (a2 &&& 31)))) 2 a1.toNatClampNeg) → (wp_X11_did (tms μ43 2 a1.toNatClampNeg ((μ43 2 a1.toNatClampNeg) ||| ((1 : Int32) <<< (a2 &&& 31)))) (0 : Int32) (fun (r62 : Int32) (μ61 : TMem) => Q r62 μ61)))))))))) ∧ (¬ a3 = 0 → (vp_in a1 (ml 3) ∧ ((a4 = 0 → (vp_in a1 (ml 3) ∧ (vp_in a1 (ml 3) ∧ ((¬ (μ43 3 a1.toNatClampNeg) = ((tms μ43 3 a1.toNatClampNeg ((μ43 3 a1.toNatClampNeg) &&& (((1 : Int32) <<< (a2 &&& 31)) ^^^ (-1 : Int32)))) 3 a1.toNatClampNeg) → (wp_X11_did (tms μ43 3 a1.toNatClampNeg ((μ43 3 a1.toNatClampNeg) &&& (((1 : Int32) <<< (a2 &&& 31)) ^^^ (-1 : Int32)))) (1 : Int32) (fun (r69 : Int32) (μ68 : TMem) => Q r69 μ68))) ∧ ((μ43 3 a1.toNatClampNeg) = ((tms μ43 3 a1.toNatClampNeg ((μ43 3 a1.toNatClampNeg) &&& (((1 : Int32) <<< (a2 &&& 31)) ^^^ (-1 : Int32)))) 3 a1.toNatClampNeg) → (wp_X11_did (tms μ43 3 a1.toNatClampNeg ((μ43 3 a1.toNatClampNeg) &&& (((1 : Int32) <<< (a2 &&& 31)) ^^^ (-1 : Int32)))) (0 : Int32) (fun (r71 : Int32) (μ70 : TMem) => Q r71 μ70))))))) ∧ (¬ a4 = 0 → (vp_in a1 (ml 3) ∧ (vp_in a1 (ml 3) ∧ ((¬ (μ43 3 a1.toNatClampNeg) = ((tms μ43 3 a1.toNatClampNeg ((μ43 3 a1.toNatClampNeg) ||| ((1 : Int32) <<< (a2 &&& 31)))) 3 a1.toNatClampNeg) → (wp_X11_did (tms μ43 3 a1.toNatClampNeg ((μ43 3 a1.toNatClampNeg) ||| ((1 : Int32) <<< (a2 &&& 31)))) (1 : Int32) (fun (r76 : Int32) (μ75 : TMem) => Q r76 μ75))) ∧ ((μ43 3 a1.toNatClampNeg) = ((tms μ43 3 a1.toNatClampNeg ((μ43 3 a1.toNatClampNeg) ||| ((1 : Int32) <<< (a2 &&& 31)))) 3 a1.toNatClampNeg) → (wp_X11_did (tms μ43 3 a1.toNatClampNeg ((μ43 3 a1.toNatClampNeg) ||| ((1 : Int32) <<< (a2 &&& 31)))) (0 : Int32) (fun (r78 : Int32) (μ77 : TMem) => Q r78 μ77)))))))))))) ∧ (¬ r44 = 0 → (Q (0 : Int32) μ43))))) ∧ (¬ r41 = 0 → (wp_X11_isThrown μ (1 : Int32) (1 : Int32) (fun (r80 : Int32) (μ79 : TMem) => (r80 = 0 → ((a3 = 0 → (vp_in a1 (ml 2) ∧ ((a4 = 0 → (vp_in a1 (ml 2) ∧ (vp_in a1 (ml 2) ∧ ((¬ (μ79 2 a1.toNatClampNeg) = ((tms μ79 2 a1.toNatClampNeg ((μ79 2 a1.toNatClampNeg) &&& (((1 : Int32) <<< (a2 &&& 31)) ^^^ (-1 : Int32)))) 2 a1.toNatClampNeg) → (wp_X11_did (tms μ79 2 a1.toNatClampNeg ((μ79 2 a1.toNatClampNeg) &&& (((1 : Int32) <<< (a2 &&& 31)) ^^^ (-1 : Int32)))) (1 : Int32) (fun (r89 : Int32) (μ88 : TMem) => Q r89 μ88))) ∧ ((μ79 2 a1.toNatClampNeg) = ((tms μ79 2 a1.toNatClampNeg ((μ79 2 a1.toNatClampNeg) &&& (((1 : Int32) <<< (a2 &&& 31)) ^^^ (-1 : Int32)))) 2 a1.toNatClampNeg) → (wp_X11_did (tms μ79 2 a1.toNatClampNeg ((μ79 2 a1.toNatClampNeg) &&& (((1 : Int32) <<< (a2 &&& 31)) ^^^ (-1 : Int32)))) (0 : Int32) (fun (r91 : Int32) (μ90 : TMem) => Q r91 μ90))))))) ∧ (¬ a4 = 0 → (vp_in a1 (ml 2) ∧ (vp_in a1 (ml 2) ∧ ((¬ (μ79 2 a1.toNatClampNeg) = ((tms μ79 2 a1.toNatClampNeg ((μ79 2 a1.toNatClampNeg) ||| ((1 : Int32) <<< (a2 &&& 31)))) 2 a1.toNatClampNeg) → (wp_X11_did (tms μ79 2 a1.toNatClampNeg ((μ79 2 a1.toNatClampNeg) ||| ((1 : Int32) <<< (a2 &&& 31)))) (1 : Int32) (fun (r96 : Int32) (μ95 : TMem) => Q r96 μ95))) ∧ ((μ79 2 a1.toNatClampNeg) = ((tms μ79 2 a1.toNatClampNeg ((μ79 2 a1.toNatClampNeg) ||| ((1 : Int32) <<< (a2 &&& 31)))) 2 a1.toNatClampNeg) → (wp_X11_did (tms μ79 2 a1.toNatClampNeg ((μ79 2 a1.toNatClampNeg) ||| ((1 : Int32) <<< (a2 &&& 31)))) (0 : Int32) (fun (r98 : Int32) (μ97 : TMem) => Q r98 μ97)))))))))) ∧ (¬ a3 = 0 → (vp_in a1 (ml 3) ∧ ((a4 = 0 → (vp_in a1 (ml 3) ∧ (vp_in a1 (ml 3) ∧ ((¬ (μ79 3 a1.toNatClampNeg) = ((tms μ79 3 a1.toNatClampNeg ((μ79 3 a1.toNatClampNeg) &&& (((1 : Int32) <<< (a2 &&& 31)) ^^^ (-1 : Int32)))) 3 a1.toNatClampNeg) → (wp_X11_did (tms μ79 3 a1.toNatClampNeg ((μ79 3 a1.toNatClampNeg) &&& (((1 : Int32) <<< (a2 &&& 31)) ^^^ (-1 : Int32)))) (1 : Int32) (fun (r105 : Int32) (μ104 : TMem) => Q r105 μ104))) ∧ ((μ79 3 a1.toNatClampNeg) = ((tms μ79 3 a1.toNatClampNeg ((μ79 3 a1.toNatClampNeg) &&& (((1 : Int32) <<< (a2 &&& 31)) ^^^ (-1 : Int32)))) 3 a1.toNatClampNeg) → (wp_X11_did (tms μ79 3 a1.toNatClampNeg ((μ79 3 a1.toNatClampNeg) &&& (((1 : Int32) <<< (a2 &&& 31)) ^^^ (-1 : Int32)))) (0 : Int32) (fun (r107 : Int32) (μ106 : TMem) => Q r107 μ106))))))) ∧ (¬ a4 = 0 → (vp_in a1 (ml 3) ∧ (vp_in a1 (ml 3) ∧ ((¬ (μ79 3 a1.toNatClampNeg) = ((tms μ79 3 a1.toNatClampNeg ((μ79 3 a1.toNatClampNeg) ||| ((1 : Int32) <<< (a2 &&& 31)))) 3 a1.toNatClampNeg) → (wp_X11_did (tms μ79 3 a1.toNatClampNeg ((μ79 3 a1.toNatClampNeg) ||| ((1 : Int32) <<< (a2 &&& 31)))) (1 : Int32) (fun (r112 : Int32) (μ111 : TMem) => Q r112 μ111))) ∧ ((μ79 3 a1.toNatClampNeg) = ((tms μ79 3 a1.toNatClampNeg ((μ79 3 a1.toNatClampNeg) ||| ((1 : Int32) <<< (a2 &&& 31)))) 3 a1.toNatClampNeg) → (wp_X11_did (tms μ79 3 a1.toNatClampNeg ((μ79 3 a1.toNatClampNeg) ||| ((1 : Int32) <<< (a2 &&& 31)))) (0 : Int32) (fun (r114 : Int32) (μ113 : TMem) => Q r114 μ113)))))))))))) ∧ (¬ r80 = 0 → (Q (0 : Int32) μ79))))))))) at h
  refine lv_aload_n hx hb dX11_mark_0 rfl (lv_at hl 0 rfl) ?_
  refine lv_iload_n hx hb dX11_mark_1 rfl (lv_at hl 1 rfl) ?_
  refine P_calli (va_runS (own := "LeastreaderModel") (As := [.int a1]) (rest := [.ref (ad 0)]) ⟨hx, hb, hml, hown, ht⟩ (c_X11_isOne a1 h) (va_cwS 1 ht (G_S q_1346 q_1347 q_56 q_1348) rfl rfl rfl hd_91 ⟨Nat.le_of_ble_eq_true rfl, Nat.le_of_ble_eq_true rfl⟩) ⟨PM_blind, PM_pre⟩ rfl rfl hl.1 rfl (lv_room (Nat.le_of_ble_eq_true rfl)) dX11_mark_2 ⟨show 0 + 0 ≤ 0 by omega, show 0 + 0 ≤ 0 by omega⟩) (fun r1 h => ?_)
  refine lv_if_eq (tgt := 21) hx hb dX11_mark_5 (by decide) (fun c2 => ?_) (fun c2 => ?_)
  · have h := h.1 c2
    refine lv_iconst (v := (0 : Int32)) hx hb dX11_mark_21 (by decide) ?_
    refine lv_iconst (v := (1 : Int32)) hx hb dX11_mark_22 (by decide) ?_
    refine M_calli hw (MA.up hw.2.2.1.1) (va_runV (own := "LeastreaderModel") (As := [.int (0 : Int32), .int (1 : Int32)]) (rest := []) ⟨hx, hb, hml, hown, ht⟩ (c_X11_isThrown μ H.size (0 : Int32) (1 : Int32) h) (cwV 2 ht (G_V q_1352 q_1354 q_26 q_56 q_1355) rfl rfl rfl ⟨rfl, hd_92⟩ ⟨Nat.le_of_ble_eq_true rfl, Nat.le_of_ble_eq_true rfl⟩) ⟨MB.blind, M_recv hK hw, MB.pre hK hI hw va_P0 ne0⟩ rfl rfl hl.1 rfl (lv_room (Nat.le_of_ble_eq_true rfl)) dX11_mark_23 ⟨show 0 + 0 ≤ 0 by omega, show 0 + 0 ≤ 0 by omega⟩) (fun r4 μ3 H locs h hw => ?_)
    refine lv_if_eq (tgt := 31) hx hb dX11_mark_26 (by decide) (fun c5 => ?_) (fun c5 => ?_)
    · have h := h.1 c5
      refine lv_iload_n hx hb dX11_mark_31 rfl (lv_at hl 3 rfl) ?_
      refine lv_if_eq (tgt := 42) hx hb dX11_mark_32 (by decide) (fun c6 => ?_) (fun c6 => ?_)
      · have h := h.1 c6
        refine lv_aload_n hx hb dX11_mark_42 rfl (lv_at hl 0 rfl) ?_
        refine m_get (i := 1) hx hb ht hown hK hw (by decide) (ht _ q_1314) rfl rfl dX11_mark_43 ?_
        refine lv_astore (lv' := [(5, .ref (ad 2)), (0, .ref (ad 0)), (1, .int a1), (2, .int a2), (3, .int a3), (4, .int a4)]) hx hb dX11_mark_46 hl (by decide) rfl (fun ls hl => ?_)
        refine lv_aload hx hb dX11_mark_48 (lv_at hl 0 rfl) ?_
        refine lv_iload_n hx hb dX11_mark_50 rfl (lv_at hl 2 rfl) ?_
        obtain ⟨z7, h⟩ := h
        refine m_iald hx hb hK hw (by decide) z7 dX11_mark_51 ?_
        refine lv_istore (lv' := [(6, .int (μ3 2 a1.toNatClampNeg)), (5, .ref (ad 2)), (0, .ref (ad 0)), (1, .int a1), (2, .int a2), (3, .int a3), (4, .int a4)]) hx hb dX11_mark_52 hl (by decide) rfl (fun ls hl => ?_)
        refine lv_aload hx hb dX11_mark_54 (lv_at hl 1 rfl) ?_
        refine lv_iload_n hx hb dX11_mark_56 rfl (lv_at hl 3 rfl) ?_
        refine lv_iload hx hb dX11_mark_57 (lv_at hl 6 rfl) ?_
        refine lv_if_eq (tgt := 71) hx hb dX11_mark_59 (by decide) (fun c8 => ?_) (fun c8 => ?_)
        · have h := h.1 c8
          refine lv_iload hx hb dX11_mark_71 (lv_at hl 0 rfl) ?_
          refine lv_iconst (v := (1 : Int32)) hx hb dX11_mark_73 (by decide) ?_
          refine lv_iload_n hx hb dX11_mark_74 rfl (lv_at hl 4 rfl) ?_
          refine lv_ishl hx hb dX11_mark_75 ?_
          refine lv_iconst (v := (-1 : Int32)) hx hb dX11_mark_76 (by decide) ?_
          refine lv_ixor hx hb dX11_mark_77 ?_
          refine lv_iand hx hb dX11_mark_78 ?_
          obtain ⟨z9, h⟩ := h
          refine m_iast hx hb hK hw (by decide) z9 dX11_mark_79 (fun H locs hw => ?_)
          refine lv_aload_n hx hb dX11_mark_80 rfl (lv_at hl 2 rfl) ?_
          refine lv_iload hx hb dX11_mark_81 (lv_at hl 0 rfl) ?_
          refine lv_aload hx hb dX11_mark_83 (lv_at hl 1 rfl) ?_
          refine lv_iload_n hx hb dX11_mark_85 rfl (lv_at hl 3 rfl) ?_
          obtain ⟨z10, h⟩ := h
          refine m_iald hx hb hK hw (by decide) z10 dX11_mark_86 ?_
          refine lv_icmp_ne (tgt := 94) hx hb dX11_mark_87 (by decide) (fun c11 => ?_) (fun c11 => ?_)
          · have h := h.1 c11
            refine lv_iconst (v := (1 : Int32)) hx hb dX11_mark_94 (by decide) ?_
            refine M_calli hw (MA.up hw.2.2.1.1) (va_runV (own := "LeastreaderModel") (As := [.int (1 : Int32)]) (rest := []) ⟨hx, hb, hml, hown, ht⟩ (c_X11_did (tms μ3 2 a1.toNatClampNeg ((μ3 2 a1.toNatClampNeg) &&& (((1 : Int32) <<< (a2 &&& 31)) ^^^ (-1 : Int32)))) H.size (1 : Int32) h) (cwV 1 ht (G_V q_1368 q_1370 q_29 q_56 q_1371) rfl rfl rfl ⟨rfl, hd_95⟩ ⟨Nat.le_of_ble_eq_true rfl, Nat.le_of_ble_eq_true rfl⟩) ⟨MB.blind, M_recv hK hw, MB.pre hK hI hw va_P0 ne0⟩ rfl rfl hl.1 rfl (lv_room (Nat.le_of_ble_eq_true rfl)) dX11_mark_95 ⟨show 0 + 0 ≤ 0 by omega, show 0 + 0 ≤ 0 by omega⟩) (fun r13 μ12 H locs h hw => ?_)
            exact hret H locs ls 98 _ _ _ _ _ hw h rfl (show 0 ≤ 0 by omega) (show 0 ≤ 0 by omega) dX11_mark_98
          have h := h.2 c11
          refine lv_iconst (v := (0 : Int32)) hx hb dX11_mark_90 (by decide) ?_
          refine lv_goto (tgt := 95) hx hb dX11_mark_91 (by decide) ?_
          refine M_calli hw (MA.up hw.2.2.1.1) (va_runV (own := "LeastreaderModel") (As := [.int (0 : Int32)]) (rest := []) ⟨hx, hb, hml, hown, ht⟩ (c_X11_did (tms μ3 2 a1.toNatClampNeg ((μ3 2 a1.toNatClampNeg) &&& (((1 : Int32) <<< (a2 &&& 31)) ^^^ (-1 : Int32)))) H.size (0 : Int32) h) (cwV 1 ht (G_V q_1368 q_1370 q_29 q_56 q_1371) rfl rfl rfl ⟨rfl, hd_95⟩ ⟨Nat.le_of_ble_eq_true rfl, Nat.le_of_ble_eq_true rfl⟩) ⟨MB.blind, M_recv hK hw, MB.pre hK hI hw va_P0 ne0⟩ rfl rfl hl.1 rfl (lv_room (Nat.le_of_ble_eq_true rfl)) dX11_mark_95 ⟨show 0 + 0 ≤ 0 by omega, show 0 + 0 ≤ 0 by omega⟩) (fun r15 μ14 H locs h hw => ?_)
          exact hret H locs ls 98 _ _ _ _ _ hw h rfl (show 0 ≤ 0 by omega) (show 0 ≤ 0 by omega) dX11_mark_98
        have h := h.2 c8
        refine lv_iload hx hb dX11_mark_62 (lv_at hl 0 rfl) ?_
        refine lv_iconst (v := (1 : Int32)) hx hb dX11_mark_64 (by decide) ?_
        refine lv_iload_n hx hb dX11_mark_65 rfl (lv_at hl 4 rfl) ?_
        refine lv_ishl hx hb dX11_mark_66 ?_
        refine lv_ior hx hb dX11_mark_67 ?_
        refine lv_goto (tgt := 79) hx hb dX11_mark_68 (by decide) ?_
        obtain ⟨z16, h⟩ := h
        refine m_iast hx hb hK hw (by decide) z16 dX11_mark_79 (fun H locs hw => ?_)
        refine lv_aload_n hx hb dX11_mark_80 rfl (lv_at hl 2 rfl) ?_
        refine lv_iload hx hb dX11_mark_81 (lv_at hl 0 rfl) ?_
        refine lv_aload hx hb dX11_mark_83 (lv_at hl 1 rfl) ?_
        refine lv_iload_n hx hb dX11_mark_85 rfl (lv_at hl 3 rfl) ?_
        obtain ⟨z17, h⟩ := h
        refine m_iald hx hb hK hw (by decide) z17 dX11_mark_86 ?_
        refine lv_icmp_ne (tgt := 94) hx hb dX11_mark_87 (by decide) (fun c18 => ?_) (fun c18 => ?_)
        · have h := h.1 c18
          refine lv_iconst (v := (1 : Int32)) hx hb dX11_mark_94 (by decide) ?_
          refine M_calli hw (MA.up hw.2.2.1.1) (va_runV (own := "LeastreaderModel") (As := [.int (1 : Int32)]) (rest := []) ⟨hx, hb, hml, hown, ht⟩ (c_X11_did (tms μ3 2 a1.toNatClampNeg ((μ3 2 a1.toNatClampNeg) ||| ((1 : Int32) <<< (a2 &&& 31)))) H.size (1 : Int32) h) (cwV 1 ht (G_V q_1368 q_1370 q_29 q_56 q_1371) rfl rfl rfl ⟨rfl, hd_95⟩ ⟨Nat.le_of_ble_eq_true rfl, Nat.le_of_ble_eq_true rfl⟩) ⟨MB.blind, M_recv hK hw, MB.pre hK hI hw va_P0 ne0⟩ rfl rfl hl.1 rfl (lv_room (Nat.le_of_ble_eq_true rfl)) dX11_mark_95 ⟨show 0 + 0 ≤ 0 by omega, show 0 + 0 ≤ 0 by omega⟩) (fun r20 μ19 H locs h hw => ?_)
          exact hret H locs ls 98 _ _ _ _ _ hw h rfl (show 0 ≤ 0 by omega) (show 0 ≤ 0 by omega) dX11_mark_98
        have h := h.2 c18
        refine lv_iconst (v := (0 : Int32)) hx hb dX11_mark_90 (by decide) ?_
        refine lv_goto (tgt := 95) hx hb dX11_mark_91 (by decide) ?_
        refine M_calli hw (MA.up hw.2.2.1.1) (va_runV (own := "LeastreaderModel") (As := [.int (0 : Int32)]) (rest := []) ⟨hx, hb, hml, hown, ht⟩ (c_X11_did (tms μ3 2 a1.toNatClampNeg ((μ3 2 a1.toNatClampNeg) ||| ((1 : Int32) <<< (a2 &&& 31)))) H.size (0 : Int32) h) (cwV 1 ht (G_V q_1368 q_1370 q_29 q_56 q_1371) rfl rfl rfl ⟨rfl, hd_95⟩ ⟨Nat.le_of_ble_eq_true rfl, Nat.le_of_ble_eq_true rfl⟩) ⟨MB.blind, M_recv hK hw, MB.pre hK hI hw va_P0 ne0⟩ rfl rfl hl.1 rfl (lv_room (Nat.le_of_ble_eq_true rfl)) dX11_mark_95 ⟨show 0 + 0 ≤ 0 by omega, show 0 + 0 ≤ 0 by omega⟩) (fun r22 μ21 H locs h hw => ?_)
        exact hret H locs ls 98 _ _ _ _ _ hw h rfl (show 0 ≤ 0 by omega) (show 0 ≤ 0 by omega) dX11_mark_98
      have h := h.2 c6
      refine lv_aload_n hx hb dX11_mark_35 rfl (lv_at hl 0 rfl) ?_
      refine m_get (i := 2) hx hb ht hown hK hw (by decide) (ht _ q_1315) rfl rfl dX11_mark_36 ?_
      refine lv_goto (tgt := 46) hx hb dX11_mark_39 (by decide) ?_
      refine lv_astore (lv' := [(5, .ref (ad 3)), (0, .ref (ad 0)), (1, .int a1), (2, .int a2), (3, .int a3), (4, .int a4)]) hx hb dX11_mark_46 hl (by decide) rfl (fun ls hl => ?_)
      refine lv_aload hx hb dX11_mark_48 (lv_at hl 0 rfl) ?_
      refine lv_iload_n hx hb dX11_mark_50 rfl (lv_at hl 2 rfl) ?_
      obtain ⟨z23, h⟩ := h
      refine m_iald hx hb hK hw (by decide) z23 dX11_mark_51 ?_
      refine lv_istore (lv' := [(6, .int (μ3 3 a1.toNatClampNeg)), (5, .ref (ad 3)), (0, .ref (ad 0)), (1, .int a1), (2, .int a2), (3, .int a3), (4, .int a4)]) hx hb dX11_mark_52 hl (by decide) rfl (fun ls hl => ?_)
      refine lv_aload hx hb dX11_mark_54 (lv_at hl 1 rfl) ?_
      refine lv_iload_n hx hb dX11_mark_56 rfl (lv_at hl 3 rfl) ?_
      refine lv_iload hx hb dX11_mark_57 (lv_at hl 6 rfl) ?_
      refine lv_if_eq (tgt := 71) hx hb dX11_mark_59 (by decide) (fun c24 => ?_) (fun c24 => ?_)
      · have h := h.1 c24
        refine lv_iload hx hb dX11_mark_71 (lv_at hl 0 rfl) ?_
        refine lv_iconst (v := (1 : Int32)) hx hb dX11_mark_73 (by decide) ?_
        refine lv_iload_n hx hb dX11_mark_74 rfl (lv_at hl 4 rfl) ?_
        refine lv_ishl hx hb dX11_mark_75 ?_
        refine lv_iconst (v := (-1 : Int32)) hx hb dX11_mark_76 (by decide) ?_
        refine lv_ixor hx hb dX11_mark_77 ?_
        refine lv_iand hx hb dX11_mark_78 ?_
        obtain ⟨z25, h⟩ := h
        refine m_iast hx hb hK hw (by decide) z25 dX11_mark_79 (fun H locs hw => ?_)
        refine lv_aload_n hx hb dX11_mark_80 rfl (lv_at hl 2 rfl) ?_
        refine lv_iload hx hb dX11_mark_81 (lv_at hl 0 rfl) ?_
        refine lv_aload hx hb dX11_mark_83 (lv_at hl 1 rfl) ?_
        refine lv_iload_n hx hb dX11_mark_85 rfl (lv_at hl 3 rfl) ?_
        obtain ⟨z26, h⟩ := h
        refine m_iald hx hb hK hw (by decide) z26 dX11_mark_86 ?_
        refine lv_icmp_ne (tgt := 94) hx hb dX11_mark_87 (by decide) (fun c27 => ?_) (fun c27 => ?_)
        · have h := h.1 c27
          refine lv_iconst (v := (1 : Int32)) hx hb dX11_mark_94 (by decide) ?_
          refine M_calli hw (MA.up hw.2.2.1.1) (va_runV (own := "LeastreaderModel") (As := [.int (1 : Int32)]) (rest := []) ⟨hx, hb, hml, hown, ht⟩ (c_X11_did (tms μ3 3 a1.toNatClampNeg ((μ3 3 a1.toNatClampNeg) &&& (((1 : Int32) <<< (a2 &&& 31)) ^^^ (-1 : Int32)))) H.size (1 : Int32) h) (cwV 1 ht (G_V q_1368 q_1370 q_29 q_56 q_1371) rfl rfl rfl ⟨rfl, hd_95⟩ ⟨Nat.le_of_ble_eq_true rfl, Nat.le_of_ble_eq_true rfl⟩) ⟨MB.blind, M_recv hK hw, MB.pre hK hI hw va_P0 ne0⟩ rfl rfl hl.1 rfl (lv_room (Nat.le_of_ble_eq_true rfl)) dX11_mark_95 ⟨show 0 + 0 ≤ 0 by omega, show 0 + 0 ≤ 0 by omega⟩) (fun r29 μ28 H locs h hw => ?_)
          exact hret H locs ls 98 _ _ _ _ _ hw h rfl (show 0 ≤ 0 by omega) (show 0 ≤ 0 by omega) dX11_mark_98
        have h := h.2 c27
        refine lv_iconst (v := (0 : Int32)) hx hb dX11_mark_90 (by decide) ?_
        refine lv_goto (tgt := 95) hx hb dX11_mark_91 (by decide) ?_
        refine M_calli hw (MA.up hw.2.2.1.1) (va_runV (own := "LeastreaderModel") (As := [.int (0 : Int32)]) (rest := []) ⟨hx, hb, hml, hown, ht⟩ (c_X11_did (tms μ3 3 a1.toNatClampNeg ((μ3 3 a1.toNatClampNeg) &&& (((1 : Int32) <<< (a2 &&& 31)) ^^^ (-1 : Int32)))) H.size (0 : Int32) h) (cwV 1 ht (G_V q_1368 q_1370 q_29 q_56 q_1371) rfl rfl rfl ⟨rfl, hd_95⟩ ⟨Nat.le_of_ble_eq_true rfl, Nat.le_of_ble_eq_true rfl⟩) ⟨MB.blind, M_recv hK hw, MB.pre hK hI hw va_P0 ne0⟩ rfl rfl hl.1 rfl (lv_room (Nat.le_of_ble_eq_true rfl)) dX11_mark_95 ⟨show 0 + 0 ≤ 0 by omega, show 0 + 0 ≤ 0 by omega⟩) (fun r31 μ30 H locs h hw => ?_)
        exact hret H locs ls 98 _ _ _ _ _ hw h rfl (show 0 ≤ 0 by omega) (show 0 ≤ 0 by omega) dX11_mark_98
      have h := h.2 c24
      refine lv_iload hx hb dX11_mark_62 (lv_at hl 0 rfl) ?_
      refine lv_iconst (v := (1 : Int32)) hx hb dX11_mark_64 (by decide) ?_
      refine lv_iload_n hx hb dX11_mark_65 rfl (lv_at hl 4 rfl) ?_
      refine lv_ishl hx hb dX11_mark_66 ?_
      refine lv_ior hx hb dX11_mark_67 ?_
      refine lv_goto (tgt := 79) hx hb dX11_mark_68 (by decide) ?_
      obtain ⟨z32, h⟩ := h
      refine m_iast hx hb hK hw (by decide) z32 dX11_mark_79 (fun H locs hw => ?_)
      refine lv_aload_n hx hb dX11_mark_80 rfl (lv_at hl 2 rfl) ?_
      refine lv_iload hx hb dX11_mark_81 (lv_at hl 0 rfl) ?_
      refine lv_aload hx hb dX11_mark_83 (lv_at hl 1 rfl) ?_
      refine lv_iload_n hx hb dX11_mark_85 rfl (lv_at hl 3 rfl) ?_
      obtain ⟨z33, h⟩ := h
      refine m_iald hx hb hK hw (by decide) z33 dX11_mark_86 ?_
      refine lv_icmp_ne (tgt := 94) hx hb dX11_mark_87 (by decide) (fun c34 => ?_) (fun c34 => ?_)
      · have h := h.1 c34
        refine lv_iconst (v := (1 : Int32)) hx hb dX11_mark_94 (by decide) ?_
        refine M_calli hw (MA.up hw.2.2.1.1) (va_runV (own := "LeastreaderModel") (As := [.int (1 : Int32)]) (rest := []) ⟨hx, hb, hml, hown, ht⟩ (c_X11_did (tms μ3 3 a1.toNatClampNeg ((μ3 3 a1.toNatClampNeg) ||| ((1 : Int32) <<< (a2 &&& 31)))) H.size (1 : Int32) h) (cwV 1 ht (G_V q_1368 q_1370 q_29 q_56 q_1371) rfl rfl rfl ⟨rfl, hd_95⟩ ⟨Nat.le_of_ble_eq_true rfl, Nat.le_of_ble_eq_true rfl⟩) ⟨MB.blind, M_recv hK hw, MB.pre hK hI hw va_P0 ne0⟩ rfl rfl hl.1 rfl (lv_room (Nat.le_of_ble_eq_true rfl)) dX11_mark_95 ⟨show 0 + 0 ≤ 0 by omega, show 0 + 0 ≤ 0 by omega⟩) (fun r36 μ35 H locs h hw => ?_)
        exact hret H locs ls 98 _ _ _ _ _ hw h rfl (show 0 ≤ 0 by omega) (show 0 ≤ 0 by omega) dX11_mark_98
      have h := h.2 c34
      refine lv_iconst (v := (0 : Int32)) hx hb dX11_mark_90 (by decide) ?_
      refine lv_goto (tgt := 95) hx hb dX11_mark_91 (by decide) ?_
      refine M_calli hw (MA.up hw.2.2.1.1) (va_runV (own := "LeastreaderModel") (As := [.int (0 : Int32)]) (rest := []) ⟨hx, hb, hml, hown, ht⟩ (c_X11_did (tms μ3 3 a1.toNatClampNeg ((μ3 3 a1.toNatClampNeg) ||| ((1 : Int32) <<< (a2 &&& 31)))) H.size (0 : Int32) h) (cwV 1 ht (G_V q_1368 q_1370 q_29 q_56 q_1371) rfl rfl rfl ⟨rfl, hd_95⟩ ⟨Nat.le_of_ble_eq_true rfl, Nat.le_of_ble_eq_true rfl⟩) ⟨MB.blind, M_recv hK hw, MB.pre hK hI hw va_P0 ne0⟩ rfl rfl hl.1 rfl (lv_room (Nat.le_of_ble_eq_true rfl)) dX11_mark_95 ⟨show 0 + 0 ≤ 0 by omega, show 0 + 0 ≤ 0 by omega⟩) (fun r38 μ37 H locs h hw => ?_)
      exact hret H locs ls 98 _ _ _ _ _ hw h rfl (show 0 ≤ 0 by omega) (show 0 ≤ 0 by omega) dX11_mark_98
    have h := h.2 c5
    refine lv_iconst (v := (0 : Int32)) hx hb dX11_mark_29 (by decide) ?_
    exact hret H locs ls 30 _ _ _ _ _ hw h rfl (show 0 ≤ 0 by omega) (show 0 ≤ 0 by omega) dX11_mark_30
  have h := h.2 c2
  refine lv_aload_n hx hb dX11_mark_8 rfl (lv_at hl 0 rfl) ?_
  refine lv_iload_n hx hb dX11_mark_9 rfl (lv_at hl 1 rfl) ?_
  refine lv_iload_n hx hb dX11_mark_10 rfl (lv_at hl 2 rfl) ?_
  refine M_calli hw (MA.up hw.2.2.1.1) (va_runV (own := "LeastreaderModel") (As := [.int a1, .int a2]) (rest := [.ref (ad 0)]) ⟨hx, hb, hml, hown, ht⟩ (c_X11_isState μ H.size a1 a2 h) (cwV 2 ht (G_V q_1380 q_1382 q_31 q_56 q_1383) rfl rfl rfl ⟨rfl, hd_96⟩ ⟨Nat.le_of_ble_eq_true rfl, Nat.le_of_ble_eq_true rfl⟩) ⟨MB.blind, M_recv hK hw, MB.pre hK hI hw va_P0 ne0⟩ rfl rfl hl.1 rfl (lv_room (Nat.le_of_ble_eq_true rfl)) dX11_mark_11 ⟨show 0 + 0 ≤ 0 by omega, show 0 + 0 ≤ 0 by omega⟩) (fun r41 μ39 H locs h hw => ?_)
  obtain ⟨e40, h⟩ := h
  rw [e40] at hw
  refine lv_if_eq (tgt := 21) hx hb dX11_mark_14 (by decide) (fun c42 => ?_) (fun c42 => ?_)
  · have h := h.1 c42
    refine lv_iconst (v := (0 : Int32)) hx hb dX11_mark_21 (by decide) ?_
    refine lv_iconst (v := (1 : Int32)) hx hb dX11_mark_22 (by decide) ?_
    refine M_calli hw (MA.up hw.2.2.1.1) (va_runV (own := "LeastreaderModel") (As := [.int (0 : Int32), .int (1 : Int32)]) (rest := []) ⟨hx, hb, hml, hown, ht⟩ (c_X11_isThrown μ H.size (0 : Int32) (1 : Int32) h) (cwV 2 ht (G_V q_1352 q_1354 q_26 q_56 q_1355) rfl rfl rfl ⟨rfl, hd_92⟩ ⟨Nat.le_of_ble_eq_true rfl, Nat.le_of_ble_eq_true rfl⟩) ⟨MB.blind, M_recv hK hw, MB.pre hK hI hw va_P0 ne0⟩ rfl rfl hl.1 rfl (lv_room (Nat.le_of_ble_eq_true rfl)) dX11_mark_23 ⟨show 0 + 0 ≤ 0 by omega, show 0 + 0 ≤ 0 by omega⟩) (fun r44 μ43 H locs h hw => ?_)
    refine lv_if_eq (tgt := 31) hx hb dX11_mark_26 (by decide) (fun c45 => ?_) (fun c45 => ?_)
    · have h := h.1 c45
      refine lv_iload_n hx hb dX11_mark_31 rfl (lv_at hl 3 rfl) ?_
      refine lv_if_eq (tgt := 42) hx hb dX11_mark_32 (by decide) (fun c46 => ?_) (fun c46 => ?_)
      · have h := h.1 c46
        refine lv_aload_n hx hb dX11_mark_42 rfl (lv_at hl 0 rfl) ?_
        refine m_get (i := 1) hx hb ht hown hK hw (by decide) (ht _ q_1314) rfl rfl dX11_mark_43 ?_
        refine lv_astore (lv' := [(5, .ref (ad 2)), (0, .ref (ad 0)), (1, .int a1), (2, .int a2), (3, .int a3), (4, .int a4)]) hx hb dX11_mark_46 hl (by decide) rfl (fun ls hl => ?_)
        refine lv_aload hx hb dX11_mark_48 (lv_at hl 0 rfl) ?_
        refine lv_iload_n hx hb dX11_mark_50 rfl (lv_at hl 2 rfl) ?_
        obtain ⟨z47, h⟩ := h
        refine m_iald hx hb hK hw (by decide) z47 dX11_mark_51 ?_
        refine lv_istore (lv' := [(6, .int (μ43 2 a1.toNatClampNeg)), (5, .ref (ad 2)), (0, .ref (ad 0)), (1, .int a1), (2, .int a2), (3, .int a3), (4, .int a4)]) hx hb dX11_mark_52 hl (by decide) rfl (fun ls hl => ?_)
        refine lv_aload hx hb dX11_mark_54 (lv_at hl 1 rfl) ?_
        refine lv_iload_n hx hb dX11_mark_56 rfl (lv_at hl 3 rfl) ?_
        refine lv_iload hx hb dX11_mark_57 (lv_at hl 6 rfl) ?_
        refine lv_if_eq (tgt := 71) hx hb dX11_mark_59 (by decide) (fun c48 => ?_) (fun c48 => ?_)
        · have h := h.1 c48
          refine lv_iload hx hb dX11_mark_71 (lv_at hl 0 rfl) ?_
          refine lv_iconst (v := (1 : Int32)) hx hb dX11_mark_73 (by decide) ?_
          refine lv_iload_n hx hb dX11_mark_74 rfl (lv_at hl 4 rfl) ?_
          refine lv_ishl hx hb dX11_mark_75 ?_
          refine lv_iconst (v := (-1 : Int32)) hx hb dX11_mark_76 (by decide) ?_
          refine lv_ixor hx hb dX11_mark_77 ?_
          refine lv_iand hx hb dX11_mark_78 ?_
          obtain ⟨z49, h⟩ := h
          refine m_iast hx hb hK hw (by decide) z49 dX11_mark_79 (fun H locs hw => ?_)
          refine lv_aload_n hx hb dX11_mark_80 rfl (lv_at hl 2 rfl) ?_
          refine lv_iload hx hb dX11_mark_81 (lv_at hl 0 rfl) ?_
          refine lv_aload hx hb dX11_mark_83 (lv_at hl 1 rfl) ?_
          refine lv_iload_n hx hb dX11_mark_85 rfl (lv_at hl 3 rfl) ?_
          obtain ⟨z50, h⟩ := h
          refine m_iald hx hb hK hw (by decide) z50 dX11_mark_86 ?_
          refine lv_icmp_ne (tgt := 94) hx hb dX11_mark_87 (by decide) (fun c51 => ?_) (fun c51 => ?_)
          · have h := h.1 c51
            refine lv_iconst (v := (1 : Int32)) hx hb dX11_mark_94 (by decide) ?_
            refine M_calli hw (MA.up hw.2.2.1.1) (va_runV (own := "LeastreaderModel") (As := [.int (1 : Int32)]) (rest := []) ⟨hx, hb, hml, hown, ht⟩ (c_X11_did (tms μ43 2 a1.toNatClampNeg ((μ43 2 a1.toNatClampNeg) &&& (((1 : Int32) <<< (a2 &&& 31)) ^^^ (-1 : Int32)))) H.size (1 : Int32) h) (cwV 1 ht (G_V q_1368 q_1370 q_29 q_56 q_1371) rfl rfl rfl ⟨rfl, hd_95⟩ ⟨Nat.le_of_ble_eq_true rfl, Nat.le_of_ble_eq_true rfl⟩) ⟨MB.blind, M_recv hK hw, MB.pre hK hI hw va_P0 ne0⟩ rfl rfl hl.1 rfl (lv_room (Nat.le_of_ble_eq_true rfl)) dX11_mark_95 ⟨show 0 + 0 ≤ 0 by omega, show 0 + 0 ≤ 0 by omega⟩) (fun r53 μ52 H locs h hw => ?_)
            exact hret H locs ls 98 _ _ _ _ _ hw h rfl (show 0 ≤ 0 by omega) (show 0 ≤ 0 by omega) dX11_mark_98
          have h := h.2 c51
          refine lv_iconst (v := (0 : Int32)) hx hb dX11_mark_90 (by decide) ?_
          refine lv_goto (tgt := 95) hx hb dX11_mark_91 (by decide) ?_
          refine M_calli hw (MA.up hw.2.2.1.1) (va_runV (own := "LeastreaderModel") (As := [.int (0 : Int32)]) (rest := []) ⟨hx, hb, hml, hown, ht⟩ (c_X11_did (tms μ43 2 a1.toNatClampNeg ((μ43 2 a1.toNatClampNeg) &&& (((1 : Int32) <<< (a2 &&& 31)) ^^^ (-1 : Int32)))) H.size (0 : Int32) h) (cwV 1 ht (G_V q_1368 q_1370 q_29 q_56 q_1371) rfl rfl rfl ⟨rfl, hd_95⟩ ⟨Nat.le_of_ble_eq_true rfl, Nat.le_of_ble_eq_true rfl⟩) ⟨MB.blind, M_recv hK hw, MB.pre hK hI hw va_P0 ne0⟩ rfl rfl hl.1 rfl (lv_room (Nat.le_of_ble_eq_true rfl)) dX11_mark_95 ⟨show 0 + 0 ≤ 0 by omega, show 0 + 0 ≤ 0 by omega⟩) (fun r55 μ54 H locs h hw => ?_)
          exact hret H locs ls 98 _ _ _ _ _ hw h rfl (show 0 ≤ 0 by omega) (show 0 ≤ 0 by omega) dX11_mark_98
        have h := h.2 c48
        refine lv_iload hx hb dX11_mark_62 (lv_at hl 0 rfl) ?_
        refine lv_iconst (v := (1 : Int32)) hx hb dX11_mark_64 (by decide) ?_
        refine lv_iload_n hx hb dX11_mark_65 rfl (lv_at hl 4 rfl) ?_
        refine lv_ishl hx hb dX11_mark_66 ?_
        refine lv_ior hx hb dX11_mark_67 ?_
        refine lv_goto (tgt := 79) hx hb dX11_mark_68 (by decide) ?_
        obtain ⟨z56, h⟩ := h
        refine m_iast hx hb hK hw (by decide) z56 dX11_mark_79 (fun H locs hw => ?_)
        refine lv_aload_n hx hb dX11_mark_80 rfl (lv_at hl 2 rfl) ?_
        refine lv_iload hx hb dX11_mark_81 (lv_at hl 0 rfl) ?_
        refine lv_aload hx hb dX11_mark_83 (lv_at hl 1 rfl) ?_
        refine lv_iload_n hx hb dX11_mark_85 rfl (lv_at hl 3 rfl) ?_
        obtain ⟨z57, h⟩ := h
        refine m_iald hx hb hK hw (by decide) z57 dX11_mark_86 ?_
        refine lv_icmp_ne (tgt := 94) hx hb dX11_mark_87 (by decide) (fun c58 => ?_) (fun c58 => ?_)
        · have h := h.1 c58
          refine lv_iconst (v := (1 : Int32)) hx hb dX11_mark_94 (by decide) ?_
          refine M_calli hw (MA.up hw.2.2.1.1) (va_runV (own := "LeastreaderModel") (As := [.int (1 : Int32)]) (rest := []) ⟨hx, hb, hml, hown, ht⟩ (c_X11_did (tms μ43 2 a1.toNatClampNeg ((μ43 2 a1.toNatClampNeg) ||| ((1 : Int32) <<< (a2 &&& 31)))) H.size (1 : Int32) h) (cwV 1 ht (G_V q_1368 q_1370 q_29 q_56 q_1371) rfl rfl rfl ⟨rfl, hd_95⟩ ⟨Nat.le_of_ble_eq_true rfl, Nat.le_of_ble_eq_true rfl⟩) ⟨MB.blind, M_recv hK hw, MB.pre hK hI hw va_P0 ne0⟩ rfl rfl hl.1 rfl (lv_room (Nat.le_of_ble_eq_true rfl)) dX11_mark_95 ⟨show 0 + 0 ≤ 0 by omega, show 0 + 0 ≤ 0 by omega⟩) (fun r60 μ59 H locs h hw => ?_)
          exact hret H locs ls 98 _ _ _ _ _ hw h rfl (show 0 ≤ 0 by omega) (show 0 ≤ 0 by omega) dX11_mark_98
        have h := h.2 c58
        refine lv_iconst (v := (0 : Int32)) hx hb dX11_mark_90 (by decide) ?_
        refine lv_goto (tgt := 95) hx hb dX11_mark_91 (by decide) ?_
        refine M_calli hw (MA.up hw.2.2.1.1) (va_runV (own := "LeastreaderModel") (As := [.int (0 : Int32)]) (rest := []) ⟨hx, hb, hml, hown, ht⟩ (c_X11_did (tms μ43 2 a1.toNatClampNeg ((μ43 2 a1.toNatClampNeg) ||| ((1 : Int32) <<< (a2 &&& 31)))) H.size (0 : Int32) h) (cwV 1 ht (G_V q_1368 q_1370 q_29 q_56 q_1371) rfl rfl rfl ⟨rfl, hd_95⟩ ⟨Nat.le_of_ble_eq_true rfl, Nat.le_of_ble_eq_true rfl⟩) ⟨MB.blind, M_recv hK hw, MB.pre hK hI hw va_P0 ne0⟩ rfl rfl hl.1 rfl (lv_room (Nat.le_of_ble_eq_true rfl)) dX11_mark_95 ⟨show 0 + 0 ≤ 0 by omega, show 0 + 0 ≤ 0 by omega⟩) (fun r62 μ61 H locs h hw => ?_)
        exact hret H locs ls 98 _ _ _ _ _ hw h rfl (show 0 ≤ 0 by omega) (show 0 ≤ 0 by omega) dX11_mark_98
      have h := h.2 c46
      refine lv_aload_n hx hb dX11_mark_35 rfl (lv_at hl 0 rfl) ?_
      refine m_get (i := 2) hx hb ht hown hK hw (by decide) (ht _ q_1315) rfl rfl dX11_mark_36 ?_
      refine lv_goto (tgt := 46) hx hb dX11_mark_39 (by decide) ?_
      refine lv_astore (lv' := [(5, .ref (ad 3)), (0, .ref (ad 0)), (1, .int a1), (2, .int a2), (3, .int a3), (4, .int a4)]) hx hb dX11_mark_46 hl (by decide) rfl (fun ls hl => ?_)
      refine lv_aload hx hb dX11_mark_48 (lv_at hl 0 rfl) ?_
      refine lv_iload_n hx hb dX11_mark_50 rfl (lv_at hl 2 rfl) ?_
      obtain ⟨z63, h⟩ := h
      refine m_iald hx hb hK hw (by decide) z63 dX11_mark_51 ?_
      refine lv_istore (lv' := [(6, .int (μ43 3 a1.toNatClampNeg)), (5, .ref (ad 3)), (0, .ref (ad 0)), (1, .int a1), (2, .int a2), (3, .int a3), (4, .int a4)]) hx hb dX11_mark_52 hl (by decide) rfl (fun ls hl => ?_)
      refine lv_aload hx hb dX11_mark_54 (lv_at hl 1 rfl) ?_
      refine lv_iload_n hx hb dX11_mark_56 rfl (lv_at hl 3 rfl) ?_
      refine lv_iload hx hb dX11_mark_57 (lv_at hl 6 rfl) ?_
      refine lv_if_eq (tgt := 71) hx hb dX11_mark_59 (by decide) (fun c64 => ?_) (fun c64 => ?_)
      · have h := h.1 c64
        refine lv_iload hx hb dX11_mark_71 (lv_at hl 0 rfl) ?_
        refine lv_iconst (v := (1 : Int32)) hx hb dX11_mark_73 (by decide) ?_
        refine lv_iload_n hx hb dX11_mark_74 rfl (lv_at hl 4 rfl) ?_
        refine lv_ishl hx hb dX11_mark_75 ?_
        refine lv_iconst (v := (-1 : Int32)) hx hb dX11_mark_76 (by decide) ?_
        refine lv_ixor hx hb dX11_mark_77 ?_
        refine lv_iand hx hb dX11_mark_78 ?_
        obtain ⟨z65, h⟩ := h
        refine m_iast hx hb hK hw (by decide) z65 dX11_mark_79 (fun H locs hw => ?_)
        refine lv_aload_n hx hb dX11_mark_80 rfl (lv_at hl 2 rfl) ?_
        refine lv_iload hx hb dX11_mark_81 (lv_at hl 0 rfl) ?_
        refine lv_aload hx hb dX11_mark_83 (lv_at hl 1 rfl) ?_
        refine lv_iload_n hx hb dX11_mark_85 rfl (lv_at hl 3 rfl) ?_
        obtain ⟨z66, h⟩ := h
        refine m_iald hx hb hK hw (by decide) z66 dX11_mark_86 ?_
        refine lv_icmp_ne (tgt := 94) hx hb dX11_mark_87 (by decide) (fun c67 => ?_) (fun c67 => ?_)
        · have h := h.1 c67
          refine lv_iconst (v := (1 : Int32)) hx hb dX11_mark_94 (by decide) ?_
          refine M_calli hw (MA.up hw.2.2.1.1) (va_runV (own := "LeastreaderModel") (As := [.int (1 : Int32)]) (rest := []) ⟨hx, hb, hml, hown, ht⟩ (c_X11_did (tms μ43 3 a1.toNatClampNeg ((μ43 3 a1.toNatClampNeg) &&& (((1 : Int32) <<< (a2 &&& 31)) ^^^ (-1 : Int32)))) H.size (1 : Int32) h) (cwV 1 ht (G_V q_1368 q_1370 q_29 q_56 q_1371) rfl rfl rfl ⟨rfl, hd_95⟩ ⟨Nat.le_of_ble_eq_true rfl, Nat.le_of_ble_eq_true rfl⟩) ⟨MB.blind, M_recv hK hw, MB.pre hK hI hw va_P0 ne0⟩ rfl rfl hl.1 rfl (lv_room (Nat.le_of_ble_eq_true rfl)) dX11_mark_95 ⟨show 0 + 0 ≤ 0 by omega, show 0 + 0 ≤ 0 by omega⟩) (fun r69 μ68 H locs h hw => ?_)
          exact hret H locs ls 98 _ _ _ _ _ hw h rfl (show 0 ≤ 0 by omega) (show 0 ≤ 0 by omega) dX11_mark_98
        have h := h.2 c67
        refine lv_iconst (v := (0 : Int32)) hx hb dX11_mark_90 (by decide) ?_
        refine lv_goto (tgt := 95) hx hb dX11_mark_91 (by decide) ?_
        refine M_calli hw (MA.up hw.2.2.1.1) (va_runV (own := "LeastreaderModel") (As := [.int (0 : Int32)]) (rest := []) ⟨hx, hb, hml, hown, ht⟩ (c_X11_did (tms μ43 3 a1.toNatClampNeg ((μ43 3 a1.toNatClampNeg) &&& (((1 : Int32) <<< (a2 &&& 31)) ^^^ (-1 : Int32)))) H.size (0 : Int32) h) (cwV 1 ht (G_V q_1368 q_1370 q_29 q_56 q_1371) rfl rfl rfl ⟨rfl, hd_95⟩ ⟨Nat.le_of_ble_eq_true rfl, Nat.le_of_ble_eq_true rfl⟩) ⟨MB.blind, M_recv hK hw, MB.pre hK hI hw va_P0 ne0⟩ rfl rfl hl.1 rfl (lv_room (Nat.le_of_ble_eq_true rfl)) dX11_mark_95 ⟨show 0 + 0 ≤ 0 by omega, show 0 + 0 ≤ 0 by omega⟩) (fun r71 μ70 H locs h hw => ?_)
        exact hret H locs ls 98 _ _ _ _ _ hw h rfl (show 0 ≤ 0 by omega) (show 0 ≤ 0 by omega) dX11_mark_98
      have h := h.2 c64
      refine lv_iload hx hb dX11_mark_62 (lv_at hl 0 rfl) ?_
      refine lv_iconst (v := (1 : Int32)) hx hb dX11_mark_64 (by decide) ?_
      refine lv_iload_n hx hb dX11_mark_65 rfl (lv_at hl 4 rfl) ?_
      refine lv_ishl hx hb dX11_mark_66 ?_
      refine lv_ior hx hb dX11_mark_67 ?_
      refine lv_goto (tgt := 79) hx hb dX11_mark_68 (by decide) ?_
      obtain ⟨z72, h⟩ := h
      refine m_iast hx hb hK hw (by decide) z72 dX11_mark_79 (fun H locs hw => ?_)
      refine lv_aload_n hx hb dX11_mark_80 rfl (lv_at hl 2 rfl) ?_
      refine lv_iload hx hb dX11_mark_81 (lv_at hl 0 rfl) ?_
      refine lv_aload hx hb dX11_mark_83 (lv_at hl 1 rfl) ?_
      refine lv_iload_n hx hb dX11_mark_85 rfl (lv_at hl 3 rfl) ?_
      obtain ⟨z73, h⟩ := h
      refine m_iald hx hb hK hw (by decide) z73 dX11_mark_86 ?_
      refine lv_icmp_ne (tgt := 94) hx hb dX11_mark_87 (by decide) (fun c74 => ?_) (fun c74 => ?_)
      · have h := h.1 c74
        refine lv_iconst (v := (1 : Int32)) hx hb dX11_mark_94 (by decide) ?_
        refine M_calli hw (MA.up hw.2.2.1.1) (va_runV (own := "LeastreaderModel") (As := [.int (1 : Int32)]) (rest := []) ⟨hx, hb, hml, hown, ht⟩ (c_X11_did (tms μ43 3 a1.toNatClampNeg ((μ43 3 a1.toNatClampNeg) ||| ((1 : Int32) <<< (a2 &&& 31)))) H.size (1 : Int32) h) (cwV 1 ht (G_V q_1368 q_1370 q_29 q_56 q_1371) rfl rfl rfl ⟨rfl, hd_95⟩ ⟨Nat.le_of_ble_eq_true rfl, Nat.le_of_ble_eq_true rfl⟩) ⟨MB.blind, M_recv hK hw, MB.pre hK hI hw va_P0 ne0⟩ rfl rfl hl.1 rfl (lv_room (Nat.le_of_ble_eq_true rfl)) dX11_mark_95 ⟨show 0 + 0 ≤ 0 by omega, show 0 + 0 ≤ 0 by omega⟩) (fun r76 μ75 H locs h hw => ?_)
        exact hret H locs ls 98 _ _ _ _ _ hw h rfl (show 0 ≤ 0 by omega) (show 0 ≤ 0 by omega) dX11_mark_98
      have h := h.2 c74
      refine lv_iconst (v := (0 : Int32)) hx hb dX11_mark_90 (by decide) ?_
      refine lv_goto (tgt := 95) hx hb dX11_mark_91 (by decide) ?_
      refine M_calli hw (MA.up hw.2.2.1.1) (va_runV (own := "LeastreaderModel") (As := [.int (0 : Int32)]) (rest := []) ⟨hx, hb, hml, hown, ht⟩ (c_X11_did (tms μ43 3 a1.toNatClampNeg ((μ43 3 a1.toNatClampNeg) ||| ((1 : Int32) <<< (a2 &&& 31)))) H.size (0 : Int32) h) (cwV 1 ht (G_V q_1368 q_1370 q_29 q_56 q_1371) rfl rfl rfl ⟨rfl, hd_95⟩ ⟨Nat.le_of_ble_eq_true rfl, Nat.le_of_ble_eq_true rfl⟩) ⟨MB.blind, M_recv hK hw, MB.pre hK hI hw va_P0 ne0⟩ rfl rfl hl.1 rfl (lv_room (Nat.le_of_ble_eq_true rfl)) dX11_mark_95 ⟨show 0 + 0 ≤ 0 by omega, show 0 + 0 ≤ 0 by omega⟩) (fun r78 μ77 H locs h hw => ?_)
      exact hret H locs ls 98 _ _ _ _ _ hw h rfl (show 0 ≤ 0 by omega) (show 0 ≤ 0 by omega) dX11_mark_98
    have h := h.2 c45
    refine lv_iconst (v := (0 : Int32)) hx hb dX11_mark_29 (by decide) ?_
    exact hret H locs ls 30 _ _ _ _ _ hw h rfl (show 0 ≤ 0 by omega) (show 0 ≤ 0 by omega) dX11_mark_30
  have h := h.2 c42
  refine lv_iconst (v := (1 : Int32)) hx hb dX11_mark_17 (by decide) ?_
  refine lv_goto (tgt := 22) hx hb dX11_mark_18 (by decide) ?_
  refine lv_iconst (v := (1 : Int32)) hx hb dX11_mark_22 (by decide) ?_
  refine M_calli hw (MA.up hw.2.2.1.1) (va_runV (own := "LeastreaderModel") (As := [.int (1 : Int32), .int (1 : Int32)]) (rest := []) ⟨hx, hb, hml, hown, ht⟩ (c_X11_isThrown μ H.size (1 : Int32) (1 : Int32) h) (cwV 2 ht (G_V q_1352 q_1354 q_26 q_56 q_1355) rfl rfl rfl ⟨rfl, hd_92⟩ ⟨Nat.le_of_ble_eq_true rfl, Nat.le_of_ble_eq_true rfl⟩) ⟨MB.blind, M_recv hK hw, MB.pre hK hI hw va_P0 ne0⟩ rfl rfl hl.1 rfl (lv_room (Nat.le_of_ble_eq_true rfl)) dX11_mark_23 ⟨show 0 + 0 ≤ 0 by omega, show 0 + 0 ≤ 0 by omega⟩) (fun r80 μ79 H locs h hw => ?_)
  refine lv_if_eq (tgt := 31) hx hb dX11_mark_26 (by decide) (fun c81 => ?_) (fun c81 => ?_)
  · have h := h.1 c81
    refine lv_iload_n hx hb dX11_mark_31 rfl (lv_at hl 3 rfl) ?_
    refine lv_if_eq (tgt := 42) hx hb dX11_mark_32 (by decide) (fun c82 => ?_) (fun c82 => ?_)
    · have h := h.1 c82
      refine lv_aload_n hx hb dX11_mark_42 rfl (lv_at hl 0 rfl) ?_
      refine m_get (i := 1) hx hb ht hown hK hw (by decide) (ht _ q_1314) rfl rfl dX11_mark_43 ?_
      refine lv_astore (lv' := [(5, .ref (ad 2)), (0, .ref (ad 0)), (1, .int a1), (2, .int a2), (3, .int a3), (4, .int a4)]) hx hb dX11_mark_46 hl (by decide) rfl (fun ls hl => ?_)
      refine lv_aload hx hb dX11_mark_48 (lv_at hl 0 rfl) ?_
      refine lv_iload_n hx hb dX11_mark_50 rfl (lv_at hl 2 rfl) ?_
      obtain ⟨z83, h⟩ := h
      refine m_iald hx hb hK hw (by decide) z83 dX11_mark_51 ?_
      refine lv_istore (lv' := [(6, .int (μ79 2 a1.toNatClampNeg)), (5, .ref (ad 2)), (0, .ref (ad 0)), (1, .int a1), (2, .int a2), (3, .int a3), (4, .int a4)]) hx hb dX11_mark_52 hl (by decide) rfl (fun ls hl => ?_)
      refine lv_aload hx hb dX11_mark_54 (lv_at hl 1 rfl) ?_
      refine lv_iload_n hx hb dX11_mark_56 rfl (lv_at hl 3 rfl) ?_
      refine lv_iload hx hb dX11_mark_57 (lv_at hl 6 rfl) ?_
      refine lv_if_eq (tgt := 71) hx hb dX11_mark_59 (by decide) (fun c84 => ?_) (fun c84 => ?_)
      · have h := h.1 c84
        refine lv_iload hx hb dX11_mark_71 (lv_at hl 0 rfl) ?_
        refine lv_iconst (v := (1 : Int32)) hx hb dX11_mark_73 (by decide) ?_
        refine lv_iload_n hx hb dX11_mark_74 rfl (lv_at hl 4 rfl) ?_
        refine lv_ishl hx hb dX11_mark_75 ?_
        refine lv_iconst (v := (-1 : Int32)) hx hb dX11_mark_76 (by decide) ?_
        refine lv_ixor hx hb dX11_mark_77 ?_
        refine lv_iand hx hb dX11_mark_78 ?_
        obtain ⟨z85, h⟩ := h
        refine m_iast hx hb hK hw (by decide) z85 dX11_mark_79 (fun H locs hw => ?_)
        refine lv_aload_n hx hb dX11_mark_80 rfl (lv_at hl 2 rfl) ?_
        refine lv_iload hx hb dX11_mark_81 (lv_at hl 0 rfl) ?_
        refine lv_aload hx hb dX11_mark_83 (lv_at hl 1 rfl) ?_
        refine lv_iload_n hx hb dX11_mark_85 rfl (lv_at hl 3 rfl) ?_
        obtain ⟨z86, h⟩ := h
        refine m_iald hx hb hK hw (by decide) z86 dX11_mark_86 ?_
        refine lv_icmp_ne (tgt := 94) hx hb dX11_mark_87 (by decide) (fun c87 => ?_) (fun c87 => ?_)
        · have h := h.1 c87
          refine lv_iconst (v := (1 : Int32)) hx hb dX11_mark_94 (by decide) ?_
          refine M_calli hw (MA.up hw.2.2.1.1) (va_runV (own := "LeastreaderModel") (As := [.int (1 : Int32)]) (rest := []) ⟨hx, hb, hml, hown, ht⟩ (c_X11_did (tms μ79 2 a1.toNatClampNeg ((μ79 2 a1.toNatClampNeg) &&& (((1 : Int32) <<< (a2 &&& 31)) ^^^ (-1 : Int32)))) H.size (1 : Int32) h) (cwV 1 ht (G_V q_1368 q_1370 q_29 q_56 q_1371) rfl rfl rfl ⟨rfl, hd_95⟩ ⟨Nat.le_of_ble_eq_true rfl, Nat.le_of_ble_eq_true rfl⟩) ⟨MB.blind, M_recv hK hw, MB.pre hK hI hw va_P0 ne0⟩ rfl rfl hl.1 rfl (lv_room (Nat.le_of_ble_eq_true rfl)) dX11_mark_95 ⟨show 0 + 0 ≤ 0 by omega, show 0 + 0 ≤ 0 by omega⟩) (fun r89 μ88 H locs h hw => ?_)
          exact hret H locs ls 98 _ _ _ _ _ hw h rfl (show 0 ≤ 0 by omega) (show 0 ≤ 0 by omega) dX11_mark_98
        have h := h.2 c87
        refine lv_iconst (v := (0 : Int32)) hx hb dX11_mark_90 (by decide) ?_
        refine lv_goto (tgt := 95) hx hb dX11_mark_91 (by decide) ?_
        refine M_calli hw (MA.up hw.2.2.1.1) (va_runV (own := "LeastreaderModel") (As := [.int (0 : Int32)]) (rest := []) ⟨hx, hb, hml, hown, ht⟩ (c_X11_did (tms μ79 2 a1.toNatClampNeg ((μ79 2 a1.toNatClampNeg) &&& (((1 : Int32) <<< (a2 &&& 31)) ^^^ (-1 : Int32)))) H.size (0 : Int32) h) (cwV 1 ht (G_V q_1368 q_1370 q_29 q_56 q_1371) rfl rfl rfl ⟨rfl, hd_95⟩ ⟨Nat.le_of_ble_eq_true rfl, Nat.le_of_ble_eq_true rfl⟩) ⟨MB.blind, M_recv hK hw, MB.pre hK hI hw va_P0 ne0⟩ rfl rfl hl.1 rfl (lv_room (Nat.le_of_ble_eq_true rfl)) dX11_mark_95 ⟨show 0 + 0 ≤ 0 by omega, show 0 + 0 ≤ 0 by omega⟩) (fun r91 μ90 H locs h hw => ?_)
        exact hret H locs ls 98 _ _ _ _ _ hw h rfl (show 0 ≤ 0 by omega) (show 0 ≤ 0 by omega) dX11_mark_98
      have h := h.2 c84
      refine lv_iload hx hb dX11_mark_62 (lv_at hl 0 rfl) ?_
      refine lv_iconst (v := (1 : Int32)) hx hb dX11_mark_64 (by decide) ?_
      refine lv_iload_n hx hb dX11_mark_65 rfl (lv_at hl 4 rfl) ?_
      refine lv_ishl hx hb dX11_mark_66 ?_
      refine lv_ior hx hb dX11_mark_67 ?_
      refine lv_goto (tgt := 79) hx hb dX11_mark_68 (by decide) ?_
      obtain ⟨z92, h⟩ := h
      refine m_iast hx hb hK hw (by decide) z92 dX11_mark_79 (fun H locs hw => ?_)
      refine lv_aload_n hx hb dX11_mark_80 rfl (lv_at hl 2 rfl) ?_
      refine lv_iload hx hb dX11_mark_81 (lv_at hl 0 rfl) ?_
      refine lv_aload hx hb dX11_mark_83 (lv_at hl 1 rfl) ?_
      refine lv_iload_n hx hb dX11_mark_85 rfl (lv_at hl 3 rfl) ?_
      obtain ⟨z93, h⟩ := h
      refine m_iald hx hb hK hw (by decide) z93 dX11_mark_86 ?_
      refine lv_icmp_ne (tgt := 94) hx hb dX11_mark_87 (by decide) (fun c94 => ?_) (fun c94 => ?_)
      · have h := h.1 c94
        refine lv_iconst (v := (1 : Int32)) hx hb dX11_mark_94 (by decide) ?_
        refine M_calli hw (MA.up hw.2.2.1.1) (va_runV (own := "LeastreaderModel") (As := [.int (1 : Int32)]) (rest := []) ⟨hx, hb, hml, hown, ht⟩ (c_X11_did (tms μ79 2 a1.toNatClampNeg ((μ79 2 a1.toNatClampNeg) ||| ((1 : Int32) <<< (a2 &&& 31)))) H.size (1 : Int32) h) (cwV 1 ht (G_V q_1368 q_1370 q_29 q_56 q_1371) rfl rfl rfl ⟨rfl, hd_95⟩ ⟨Nat.le_of_ble_eq_true rfl, Nat.le_of_ble_eq_true rfl⟩) ⟨MB.blind, M_recv hK hw, MB.pre hK hI hw va_P0 ne0⟩ rfl rfl hl.1 rfl (lv_room (Nat.le_of_ble_eq_true rfl)) dX11_mark_95 ⟨show 0 + 0 ≤ 0 by omega, show 0 + 0 ≤ 0 by omega⟩) (fun r96 μ95 H locs h hw => ?_)
        exact hret H locs ls 98 _ _ _ _ _ hw h rfl (show 0 ≤ 0 by omega) (show 0 ≤ 0 by omega) dX11_mark_98
      have h := h.2 c94
      refine lv_iconst (v := (0 : Int32)) hx hb dX11_mark_90 (by decide) ?_
      refine lv_goto (tgt := 95) hx hb dX11_mark_91 (by decide) ?_
      refine M_calli hw (MA.up hw.2.2.1.1) (va_runV (own := "LeastreaderModel") (As := [.int (0 : Int32)]) (rest := []) ⟨hx, hb, hml, hown, ht⟩ (c_X11_did (tms μ79 2 a1.toNatClampNeg ((μ79 2 a1.toNatClampNeg) ||| ((1 : Int32) <<< (a2 &&& 31)))) H.size (0 : Int32) h) (cwV 1 ht (G_V q_1368 q_1370 q_29 q_56 q_1371) rfl rfl rfl ⟨rfl, hd_95⟩ ⟨Nat.le_of_ble_eq_true rfl, Nat.le_of_ble_eq_true rfl⟩) ⟨MB.blind, M_recv hK hw, MB.pre hK hI hw va_P0 ne0⟩ rfl rfl hl.1 rfl (lv_room (Nat.le_of_ble_eq_true rfl)) dX11_mark_95 ⟨show 0 + 0 ≤ 0 by omega, show 0 + 0 ≤ 0 by omega⟩) (fun r98 μ97 H locs h hw => ?_)
      exact hret H locs ls 98 _ _ _ _ _ hw h rfl (show 0 ≤ 0 by omega) (show 0 ≤ 0 by omega) dX11_mark_98
    have h := h.2 c82
    refine lv_aload_n hx hb dX11_mark_35 rfl (lv_at hl 0 rfl) ?_
    refine m_get (i := 2) hx hb ht hown hK hw (by decide) (ht _ q_1315) rfl rfl dX11_mark_36 ?_
    refine lv_goto (tgt := 46) hx hb dX11_mark_39 (by decide) ?_
    refine lv_astore (lv' := [(5, .ref (ad 3)), (0, .ref (ad 0)), (1, .int a1), (2, .int a2), (3, .int a3), (4, .int a4)]) hx hb dX11_mark_46 hl (by decide) rfl (fun ls hl => ?_)
    refine lv_aload hx hb dX11_mark_48 (lv_at hl 0 rfl) ?_
    refine lv_iload_n hx hb dX11_mark_50 rfl (lv_at hl 2 rfl) ?_
    obtain ⟨z99, h⟩ := h
    refine m_iald hx hb hK hw (by decide) z99 dX11_mark_51 ?_
    refine lv_istore (lv' := [(6, .int (μ79 3 a1.toNatClampNeg)), (5, .ref (ad 3)), (0, .ref (ad 0)), (1, .int a1), (2, .int a2), (3, .int a3), (4, .int a4)]) hx hb dX11_mark_52 hl (by decide) rfl (fun ls hl => ?_)
    refine lv_aload hx hb dX11_mark_54 (lv_at hl 1 rfl) ?_
    refine lv_iload_n hx hb dX11_mark_56 rfl (lv_at hl 3 rfl) ?_
    refine lv_iload hx hb dX11_mark_57 (lv_at hl 6 rfl) ?_
    refine lv_if_eq (tgt := 71) hx hb dX11_mark_59 (by decide) (fun c100 => ?_) (fun c100 => ?_)
    · have h := h.1 c100
      refine lv_iload hx hb dX11_mark_71 (lv_at hl 0 rfl) ?_
      refine lv_iconst (v := (1 : Int32)) hx hb dX11_mark_73 (by decide) ?_
      refine lv_iload_n hx hb dX11_mark_74 rfl (lv_at hl 4 rfl) ?_
      refine lv_ishl hx hb dX11_mark_75 ?_
      refine lv_iconst (v := (-1 : Int32)) hx hb dX11_mark_76 (by decide) ?_
      refine lv_ixor hx hb dX11_mark_77 ?_
      refine lv_iand hx hb dX11_mark_78 ?_
      obtain ⟨z101, h⟩ := h
      refine m_iast hx hb hK hw (by decide) z101 dX11_mark_79 (fun H locs hw => ?_)
      refine lv_aload_n hx hb dX11_mark_80 rfl (lv_at hl 2 rfl) ?_
      refine lv_iload hx hb dX11_mark_81 (lv_at hl 0 rfl) ?_
      refine lv_aload hx hb dX11_mark_83 (lv_at hl 1 rfl) ?_
      refine lv_iload_n hx hb dX11_mark_85 rfl (lv_at hl 3 rfl) ?_
      obtain ⟨z102, h⟩ := h
      refine m_iald hx hb hK hw (by decide) z102 dX11_mark_86 ?_
      refine lv_icmp_ne (tgt := 94) hx hb dX11_mark_87 (by decide) (fun c103 => ?_) (fun c103 => ?_)
      · have h := h.1 c103
        refine lv_iconst (v := (1 : Int32)) hx hb dX11_mark_94 (by decide) ?_
        refine M_calli hw (MA.up hw.2.2.1.1) (va_runV (own := "LeastreaderModel") (As := [.int (1 : Int32)]) (rest := []) ⟨hx, hb, hml, hown, ht⟩ (c_X11_did (tms μ79 3 a1.toNatClampNeg ((μ79 3 a1.toNatClampNeg) &&& (((1 : Int32) <<< (a2 &&& 31)) ^^^ (-1 : Int32)))) H.size (1 : Int32) h) (cwV 1 ht (G_V q_1368 q_1370 q_29 q_56 q_1371) rfl rfl rfl ⟨rfl, hd_95⟩ ⟨Nat.le_of_ble_eq_true rfl, Nat.le_of_ble_eq_true rfl⟩) ⟨MB.blind, M_recv hK hw, MB.pre hK hI hw va_P0 ne0⟩ rfl rfl hl.1 rfl (lv_room (Nat.le_of_ble_eq_true rfl)) dX11_mark_95 ⟨show 0 + 0 ≤ 0 by omega, show 0 + 0 ≤ 0 by omega⟩) (fun r105 μ104 H locs h hw => ?_)
        exact hret H locs ls 98 _ _ _ _ _ hw h rfl (show 0 ≤ 0 by omega) (show 0 ≤ 0 by omega) dX11_mark_98
      have h := h.2 c103
      refine lv_iconst (v := (0 : Int32)) hx hb dX11_mark_90 (by decide) ?_
      refine lv_goto (tgt := 95) hx hb dX11_mark_91 (by decide) ?_
      refine M_calli hw (MA.up hw.2.2.1.1) (va_runV (own := "LeastreaderModel") (As := [.int (0 : Int32)]) (rest := []) ⟨hx, hb, hml, hown, ht⟩ (c_X11_did (tms μ79 3 a1.toNatClampNeg ((μ79 3 a1.toNatClampNeg) &&& (((1 : Int32) <<< (a2 &&& 31)) ^^^ (-1 : Int32)))) H.size (0 : Int32) h) (cwV 1 ht (G_V q_1368 q_1370 q_29 q_56 q_1371) rfl rfl rfl ⟨rfl, hd_95⟩ ⟨Nat.le_of_ble_eq_true rfl, Nat.le_of_ble_eq_true rfl⟩) ⟨MB.blind, M_recv hK hw, MB.pre hK hI hw va_P0 ne0⟩ rfl rfl hl.1 rfl (lv_room (Nat.le_of_ble_eq_true rfl)) dX11_mark_95 ⟨show 0 + 0 ≤ 0 by omega, show 0 + 0 ≤ 0 by omega⟩) (fun r107 μ106 H locs h hw => ?_)
      exact hret H locs ls 98 _ _ _ _ _ hw h rfl (show 0 ≤ 0 by omega) (show 0 ≤ 0 by omega) dX11_mark_98
    have h := h.2 c100
    refine lv_iload hx hb dX11_mark_62 (lv_at hl 0 rfl) ?_
    refine lv_iconst (v := (1 : Int32)) hx hb dX11_mark_64 (by decide) ?_
    refine lv_iload_n hx hb dX11_mark_65 rfl (lv_at hl 4 rfl) ?_
    refine lv_ishl hx hb dX11_mark_66 ?_
    refine lv_ior hx hb dX11_mark_67 ?_
    refine lv_goto (tgt := 79) hx hb dX11_mark_68 (by decide) ?_
    obtain ⟨z108, h⟩ := h
    refine m_iast hx hb hK hw (by decide) z108 dX11_mark_79 (fun H locs hw => ?_)
    refine lv_aload_n hx hb dX11_mark_80 rfl (lv_at hl 2 rfl) ?_
    refine lv_iload hx hb dX11_mark_81 (lv_at hl 0 rfl) ?_
    refine lv_aload hx hb dX11_mark_83 (lv_at hl 1 rfl) ?_
    refine lv_iload_n hx hb dX11_mark_85 rfl (lv_at hl 3 rfl) ?_
    obtain ⟨z109, h⟩ := h
    refine m_iald hx hb hK hw (by decide) z109 dX11_mark_86 ?_
    refine lv_icmp_ne (tgt := 94) hx hb dX11_mark_87 (by decide) (fun c110 => ?_) (fun c110 => ?_)
    · have h := h.1 c110
      refine lv_iconst (v := (1 : Int32)) hx hb dX11_mark_94 (by decide) ?_
      refine M_calli hw (MA.up hw.2.2.1.1) (va_runV (own := "LeastreaderModel") (As := [.int (1 : Int32)]) (rest := []) ⟨hx, hb, hml, hown, ht⟩ (c_X11_did (tms μ79 3 a1.toNatClampNeg ((μ79 3 a1.toNatClampNeg) ||| ((1 : Int32) <<< (a2 &&& 31)))) H.size (1 : Int32) h) (cwV 1 ht (G_V q_1368 q_1370 q_29 q_56 q_1371) rfl rfl rfl ⟨rfl, hd_95⟩ ⟨Nat.le_of_ble_eq_true rfl, Nat.le_of_ble_eq_true rfl⟩) ⟨MB.blind, M_recv hK hw, MB.pre hK hI hw va_P0 ne0⟩ rfl rfl hl.1 rfl (lv_room (Nat.le_of_ble_eq_true rfl)) dX11_mark_95 ⟨show 0 + 0 ≤ 0 by omega, show 0 + 0 ≤ 0 by omega⟩) (fun r112 μ111 H locs h hw => ?_)
      exact hret H locs ls 98 _ _ _ _ _ hw h rfl (show 0 ≤ 0 by omega) (show 0 ≤ 0 by omega) dX11_mark_98
    have h := h.2 c110
    refine lv_iconst (v := (0 : Int32)) hx hb dX11_mark_90 (by decide) ?_
    refine lv_goto (tgt := 95) hx hb dX11_mark_91 (by decide) ?_
    refine M_calli hw (MA.up hw.2.2.1.1) (va_runV (own := "LeastreaderModel") (As := [.int (0 : Int32)]) (rest := []) ⟨hx, hb, hml, hown, ht⟩ (c_X11_did (tms μ79 3 a1.toNatClampNeg ((μ79 3 a1.toNatClampNeg) ||| ((1 : Int32) <<< (a2 &&& 31)))) H.size (0 : Int32) h) (cwV 1 ht (G_V q_1368 q_1370 q_29 q_56 q_1371) rfl rfl rfl ⟨rfl, hd_95⟩ ⟨Nat.le_of_ble_eq_true rfl, Nat.le_of_ble_eq_true rfl⟩) ⟨MB.blind, M_recv hK hw, MB.pre hK hI hw va_P0 ne0⟩ rfl rfl hl.1 rfl (lv_room (Nat.le_of_ble_eq_true rfl)) dX11_mark_95 ⟨show 0 + 0 ≤ 0 by omega, show 0 + 0 ≤ 0 by omega⟩) (fun r114 μ113 H locs h hw => ?_)
    exact hret H locs ls 98 _ _ _ _ _ hw h rfl (show 0 ≤ 0 by omega) (show 0 ≤ 0 by omega) dX11_mark_98
  have h := h.2 c81
  refine lv_iconst (v := (0 : Int32)) hx hb dX11_mark_29 (by decide) ?_
  exact hret H locs ls 30 _ _ _ _ _ hw h rfl (show 0 ≤ 0 by omega) (show 0 ≤ 0 by omega) dX11_mark_30
