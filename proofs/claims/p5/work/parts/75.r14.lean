def wp_X11_together (μ : TMem) (a1 : Int32) (a2 : Int32) (a3 : Int32) (a4 : Int32) (Q : Int32 → TMem → Prop) : Prop :=
  wp_X11_isOne a1 (fun (r1 : Int32) => ∀ J2 : Int32 → Prop, (∀ (j3 : Int32), (wp_X11_isIn a3 (0 : Int32) (3 : Int32) (fun (r4 : Int32) => ∀ J5 : Int32 → Prop, (∀ (j6 : Int32), (wp_X11_isThrown μ j3 j6 (fun (r8 : Int32) (μ7 : TMem) => (r8 = 0 → (wp_X11_both μ7 a1 a2 a3 (fun (r47 : Option AI) => (r47 = none → (wp_X11_least_n (fun (r30 : Option AI) => (r30 = none → (wp_X11_isCrowded_n μ7 (3 : Int32) (fun (r19 : Int32) (μ18 : TMem) => (r19 = 0 → ((¬ a4 = (-1 : Int32) → (False)) ∧ (a4 = (-1 : Int32) → (False)))) ∧ (¬ r19 = 0 → (Q (0 : Int32) μ18))))) ∧ (∀ (n16 : Nat) (f17 : Nat → Int32), r30 = some (n16, f17) → (wp_X11_isCrowded μ7 n16 f17 (3 : Int32) (fun (r23 : Int32) (μ22 : TMem) => (r23 = 0 → ((¬ a4 = (-1 : Int32) → (wp_X11_ways n16 f17 a4 (fun (n27 : Nat) (f28 : Nat → Int32) => vp_in (a4 * ((nI n16) / (4 : Int32))) n27 ∧ (Q (f28 (a4 * ((nI n16) / (4 : Int32))).toNatClampNeg) μ22)))) ∧ (a4 = (-1 : Int32) → (Q ((nI n16) / (4 : Int32)) μ22)))) ∧ (¬ r23 = 0 → (Q (0 : Int32) μ22)))))))) ∧ (∀ (n13 : Nat) (f14 : Nat → Int32), r47 = some (n13, f14) → (wp_X11_least n13 f14 (fun (r46 : Option AI) => (r46 = none → (wp_X11_isCrowded_n μ7 (3 : Int32) (fun (r35 : Int32) (μ34 : TMem) => (r35 = 0 → ((¬ a4 = (-1 : Int32) → (False)) ∧ (a4 = (-1 : Int32) → (False)))) ∧ (¬ r35 = 0 → (Q (0 : Int32) μ34))))) ∧ (∀ (n32 : Nat) (f33 : Nat → Int32), r46 = some (n32, f33) → (wp_X11_isCrowded μ7 n32 f33 (3 : Int32) (fun (r39 : Int32) (μ38 : TMem) => (r39 = 0 → ((¬ a4 = (-1 : Int32) → (wp_X11_ways n32 f33 a4 (fun (n43 : Nat) (f44 : Nat → Int32) => vp_in (a4 * ((nI n32) / (4 : Int32))) n43 ∧ (Q (f44 (a4 * ((nI n32) / (4 : Int32))).toNatClampNeg) μ38)))) ∧ (a4 = (-1 : Int32) → (Q ((nI n32) / (4 : Int32)) μ38)))) ∧ (¬ r39 = 0 → (Q (0 : Int32) μ38))))))))))) ∧ (¬ r8 = 0 → (Q (0 : Int32) μ7)))) → J5 j6) → ((r4 = 0 → (J5 (0 : Int32))) ∧ (¬ r4 = 0 → (wp_X11_isIn a4 (-1 : Int32) (12 : Int32) (fun (r49 : Int32) => (r49 = 0 → (J5 (0 : Int32))) ∧ (¬ r49 = 0 → (J5 (1 : Int32))))))))) → J2 j3) → ((r1 = 0 → (J2 (0 : Int32))) ∧ (¬ r1 = 0 → (wp_X11_isOne a2 (fun (r52 : Int32) => (r52 = 0 → (J2 (0 : Int32))) ∧ (¬ r52 = 0 → (J2 (1 : Int32))))))))
set_option maxHeartbeats 4000000 in
set_option maxRecDepth 100000 in
theorem c_X11_together {l : Launch} {D : va_G} {ad : Nat → Nat} {cI cL : ClassId}  (μ : TMem) (sz : Nat) (a1 : Int32) (a2 : Int32) (a3 : Int32) (a4 : Int32)  {Q : Int32 → TMem → Prop} (h : wp_X11_together μ a1 a2 a3 a4 Q) : MMi l yX11_together (.code yX11_together cX11_together 6 (Option.some Jvm.ClassFile.FieldType.int)) 4 48 3142 [.ref (ad 0), .int a1, .int a2, .int a3, .int a4] D ad cI cL sz μ [] Q := by
  refine M_meti (by decide +kernel) (Nat.le_of_ble_eq_true rfl) ?_
  intro p e s m below meth c Z ls hx hb hml hown ht hK hP0 hI hne hw hret hl
  have hl : lv_has ls 6 [(0, .ref (ad 0)), (1, .int a1), (2, .int a2), (3, .int a3), (4, .int a4)] := hl
  suffices hh : ∀ (H : Heap) (locs : List Loc), MW D (MR ad cI μ) [] (MA ad s.heap.size) s H locs → W p l e (RA 4 48 3142) s m #[.ref (ad 0), .int a1, .int a2, .int a3, .int a4] below meth c H locs 0 0 Z (F0 m 0 ls []) from hh _ _ hw
  intro H locs hw
  change wp_X11_isOne a1 (fun (r1 : Int32) => ∀ J2 : Int32 → Prop, (∀ (j3 : Int32), (wp_X11_isIn a3 (0 : Int32) (3 : Int32) (fun (r4 : Int32) => ∀ J5 : Int32 → Prop, (∀ (j6 : Int32), (wp_X11_isThrown μ j3 j6 (fun (r8 : Int32) (μ7 : TMem) => (r8 = 0 → (wp_X11_both μ7 a1 a2 a3 (fun (r47 : Option AI) => (r47 = none → (wp_X11_least_n (fun (r30 : Option AI) => (r30 = none → (wp_X11_isCrowded_n μ7 (3 : Int32) (fun (r19 : Int32) (μ18 : TMem) => (r19 = 0 → ((¬ a4 = (-1 : Int32) → (False)) ∧ (a4 = (-1 : Int32) → (False)))) ∧ (¬ r19 = 0 → (Q (0 : Int32) μ18))))) ∧ (∀ (n16 : Nat) (f17 : Nat → Int32), r30 = some (n16, f17) → (wp_X11_isCrowded μ7 n16 f17 (3 : Int32) (fun (r23 : Int32) (μ22 : TMem) => (r23 = 0 → ((¬ a4 = (-1 : Int32) → (wp_X11_ways n16 f17 a4 (fun (n27 : Nat) (f28 : Nat → Int32) => vp_in (a4 * ((nI n16) / (4 : Int32))) n27 ∧ (Q (f28 (a4 * ((nI n16) / (4 : Int32))).toNatClampNeg) μ22)))) ∧ (a4 = (-1 : Int32) → (Q ((nI n16) / (4 : Int32)) μ22)))) ∧ (¬ r23 = 0 → (Q (0 : Int32) μ22)))))))) ∧ (∀ (n13 : Nat) (f14 : Nat → Int32), r47 = some (n13, f14) → (wp_X11_least n13 f14 (fun (r46 : Option AI) => (r46 = none → (wp_X11_isCrowded_n μ7 (3 : Int32) (fun (r35 : Int32) (μ34 : TMem) => (r35 = 0 → ((¬ a4 = (-1 : Int32) → (False)) ∧ (a4 = (-1 : Int32) → (False)))) ∧ (¬ r35 = 0 → (Q (0 : Int32) μ34))))) ∧ (∀ (n32 : Nat) (f33 : Nat → Int32), r46 = some (n32, f33) → (wp_X11_isCrowded μ7 n32 f33 (3 : Int32) (fun (r39 : Int32) (μ38 : TMem) => (r39 = 0 → ((¬ a4 = (-1 : Int32) → (wp_X11_ways n32 f33 a4 (fun (n43 : Nat) (f44 : Nat → Int32) => vp_in (a4 * ((nI n32) / (4 : Int32))) n43 ∧ (Q (f44 (a4 * ((nI n32) / (4 : Int32))).toNatClampNeg) μ38)))) ∧ (a4 = (-1 : Int32) → (Q ((nI n32) / (4 : Int32)) μ38)))) ∧ (¬ r39 = 0 → (Q (0 : Int32) μ38))))))))))) ∧ (¬ r8 = 0 → (Q (0 : Int32) μ7)))) → J5 j6) → ((r4 = 0 → (J5 (0 : Int32))) ∧ (¬ r4 = 0 → (wp_X11_isIn a4 (-1 : Int32) (12 : Int32) (fun (r49 : Int32) => (r49 = 0 → (J5 (0 : Int32))) ∧ (¬ r49 = 0 → (J5 (1 : Int32))))))))) → J2 j3) → ((r1 = 0 → (J2 (0 : Int32))) ∧ (¬ r1 = 0 → (wp_X11_isOne a2 (fun (r52 : Int32) => (r52 = 0 → (J2 (0 : Int32))) ∧ (¬ r52 = 0 → (J2 (1 : Int32)))))))) at h
  refine lv_aload_n hx hb dX11_together_0 rfl (lv_at hl 0 rfl) ?_
  refine lv_iload_n hx hb dX11_together_1 rfl (lv_at hl 1 rfl) ?_
  refine P_calli (va_runS (own := "LeastreaderModel") (As := [.int a1]) (rest := [.ref (ad 0)]) ⟨hx, hb, hml, hown, ht⟩ (c_X11_isOne a1 h) (va_cwS 1 ht (G_S q_1346 q_1347 q_56 q_1348) rfl rfl rfl hd_91 ⟨Nat.le_of_ble_eq_true rfl, Nat.le_of_ble_eq_true rfl⟩) ⟨PM_blind, PM_pre⟩ rfl rfl hl.1 rfl (lv_room (Nat.le_of_ble_eq_true rfl)) dX11_together_2 ⟨show 0 + 0 ≤ 48 by omega, show 0 + 0 ≤ 3142 by omega⟩) (fun r1 h => ?_)
  have h := h (fun (j3 : Int32) => ∀ (H : Heap) (locs : List Loc) (ls : Array Slot), MW D (MR ad cI μ) [] (MA ad s.heap.size) s H locs → lv_has ls 6 [(0, .ref (ad 0)), (1, .int a1), (2, .int a2), (3, .int a3), (4, .int a4)] → W p l e (RA 4 48 3142) s m #[.ref (ad 0), .int a1, .int a2, .int a3, .int a4] below meth c H locs 0 0 Z (F0 m 20 ls [.int j3, .ref (ad 0)])) (fun j3 h H locs ls hw hl => by
    refine lv_iload_n hx hb dX11_together_20 rfl (lv_at hl 3 rfl) ?_
    refine lv_iconst (v := (0 : Int32)) hx hb dX11_together_21 (by decide) ?_
    refine lv_iconst (v := (3 : Int32)) hx hb dX11_together_22 (by decide) ?_
    refine P_calli (va_runS (own := "LeastreaderModel") (As := [.int a3, .int (0 : Int32), .int (3 : Int32)]) (rest := [.int j3, .ref (ad 0)]) ⟨hx, hb, hml, hown, ht⟩ (c_X11_isIn a3 (0 : Int32) (3 : Int32) h) (va_cwS 3 ht (G_S q_1349 q_1350 q_56 q_1351) rfl rfl rfl hd_78 ⟨Nat.le_of_ble_eq_true rfl, Nat.le_of_ble_eq_true rfl⟩) ⟨PM_blind, PM_pre⟩ rfl rfl hl.1 rfl (lv_room (Nat.le_of_ble_eq_true rfl)) dX11_together_23 ⟨show 0 + 0 ≤ 48 by omega, show 0 + 0 ≤ 3142 by omega⟩) (fun r4 h => ?_)
    have h := h (fun (j6 : Int32) => ∀ (H : Heap) (locs : List Loc) (ls : Array Slot), MW D (MR ad cI μ) [] (MA ad s.heap.size) s H locs → lv_has ls 6 [(0, .ref (ad 0)), (1, .int a1), (2, .int a2), (3, .int a3), (4, .int a4)] → W p l e (RA 4 48 3142) s m #[.ref (ad 0), .int a1, .int a2, .int a3, .int a4] below meth c H locs 0 0 Z (F0 m 45 ls [.int j6, .int j3, .ref (ad 0)])) (fun j6 h H locs ls hw hl => by
      refine M_calli hw (MA.up hw.2.2.1.1) (va_runV (own := "LeastreaderModel") (As := [.int j3, .int j6]) (rest := []) ⟨hx, hb, hml, hown, ht⟩ (c_X11_isThrown μ H.size j3 j6 h) (cwV 2 ht (G_V q_1352 q_1354 q_26 q_56 q_1355) rfl rfl rfl ⟨rfl, hd_92⟩ ⟨Nat.le_of_ble_eq_true rfl, Nat.le_of_ble_eq_true rfl⟩) ⟨MB.blind, M_recv hK hw, MB.pre hK hI hw va_P0 ne0⟩ rfl rfl hl.1 rfl (lv_room (Nat.le_of_ble_eq_true rfl)) dX11_together_45 ⟨show 0 + 0 ≤ 48 by omega, show 0 + 0 ≤ 3142 by omega⟩) (fun r8 μ7 H locs h hw => ?_)
      refine lv_if_eq (tgt := 53) hx hb dX11_together_48 (by decide) (fun c9 => ?_) (fun c9 => ?_)
      · have h := h.1 c9
        refine lv_aload_n hx hb dX11_together_53 rfl (lv_at hl 0 rfl) ?_
        refine lv_iload_n hx hb dX11_together_54 rfl (lv_at hl 1 rfl) ?_
        refine lv_iload_n hx hb dX11_together_55 rfl (lv_at hl 2 rfl) ?_
        refine lv_iload_n hx hb dX11_together_56 rfl (lv_at hl 3 rfl) ?_
        refine M_callA hw (MA.up hw.2.2.1.1) (va_runV (own := "LeastreaderModel") (As := [.int a1, .int a2, .int a3]) (rest := []) ⟨hx, hb, hml, hown, ht⟩ (c_X11_both μ7 H.size a1 a2 a3 h) (cwV 3 ht (G_V q_1487 q_1489 q_40 q_56 q_1490) rfl rfl rfl ⟨rfl, hd_105⟩ ⟨Nat.le_of_ble_eq_true rfl, Nat.le_of_ble_eq_true rfl⟩) ⟨MB.blind, M_recv hK hw, MB.pre hK hI hw va_P0 ne0⟩ rfl rfl hl.1 rfl (lv_room (Nat.le_of_ble_eq_true rfl)) dX11_together_57 ⟨show 0 + 10 ≤ 48 by omega, show 0 + 1350 ≤ 3142 by omega⟩) (fun μ10 H locs h hw => ?_) (fun q12 n13 f14 μ10 H locs hq12 h hw => ?_)
        · skip
          obtain ⟨e11, h⟩ := h
          rw [e11] at hw
          have h := h.1 rfl
          refine S_callA hw (va_runS (own := "LeastreaderModel") (As := [.null]) (rest := []) ⟨hx, hb, hml, hown, ht⟩ (c_X11_least_n H.size h) (va_cwS 1 ht (G_S q_1470 q_1471 q_56 q_1472) rfl rfl rfl hd_87 ⟨Nat.le_of_ble_eq_true rfl, Nat.le_of_ble_eq_true rfl⟩) ⟨SB.blind, SB.pre hK va_P0⟩ rfl rfl hl.1 rfl (lv_room (Nat.le_of_ble_eq_true rfl)) dX11_together_60 ⟨show 10 + 0 ≤ 48 by omega, show 1350 + 0 ≤ 3142 by omega⟩) (fun H locs h hw => ?_) (fun q15 n16 f17 H locs hq15 h hw => ?_)
          · skip
            have h := h.1 rfl
            refine lv_astoreN (lv' := [(5, .null), (0, .ref (ad 0)), (1, .int a1), (2, .int a2), (3, .int a3), (4, .int a4)]) hx hb dX11_together_63 hl (by decide) rfl (fun ls hl => ?_)
            refine lv_aload_n hx hb dX11_together_65 rfl (lv_at hl 1 rfl) ?_
            refine lv_aloadN hx hb dX11_together_66 (lv_at hl 0 rfl) ?_
            refine lv_iconst (v := (3 : Int32)) hx hb dX11_together_68 (by decide) ?_
            refine M_calli hw (MA.up hw.2.2.1.1) (va_runV (own := "LeastreaderModel") (As := [.null, .int (3 : Int32)]) (rest := []) ⟨hx, hb, hml, hown, ht⟩ (c_X11_isCrowded_n μ7 H.size (3 : Int32) h) (cwV 2 ht (G_V q_1524 q_1526 q_42 q_56 q_1527) rfl rfl rfl ⟨rfl, hd_109⟩ ⟨Nat.le_of_ble_eq_true rfl, Nat.le_of_ble_eq_true rfl⟩) ⟨MB.blind, M_recv hK hw, MB.pre hK hI hw va_P0 ne0⟩ rfl rfl hl.1 rfl (lv_room (Nat.le_of_ble_eq_true rfl)) dX11_together_69 ⟨show 10 + 0 ≤ 48 by omega, show 1350 + 0 ≤ 3142 by omega⟩) (fun r19 μ18 H locs h hw => ?_)
            refine lv_if_eq (tgt := 77) hx hb dX11_together_72 (by decide) (fun c20 => ?_) (fun c20 => ?_)
            · have h := h.1 c20
              refine lv_iload hx hb dX11_together_77 (lv_at hl 5 rfl) ?_
              refine lv_iconst (v := (-1 : Int32)) hx hb dX11_together_79 (by decide) ?_
              refine lv_icmp_ne (tgt := 91) hx hb dX11_together_80 (by decide) (fun c21 => ?_) (fun c21 => ?_)
              · have h := h.1 c21
                refine lv_aloadN hx hb dX11_together_91 (lv_at hl 0 rfl) ?_
                refine lv_iload hx hb dX11_together_93 (lv_at hl 5 rfl) ?_
                exact False.elim h
              have h := h.2 c21
              refine lv_aloadN hx hb dX11_together_83 (lv_at hl 0 rfl) ?_
              exact False.elim h
            have h := h.2 c20
            refine lv_iconst (v := (0 : Int32)) hx hb dX11_together_75 (by decide) ?_
            exact hret H locs ls 76 _ _ _ _ _ hw h rfl (show 10 ≤ 48 by omega) (show 1350 ≤ 3142 by omega) dX11_together_76
          have h := h.2 _ _ rfl
          have hw : MW D (MR ad cI μ7) [eI cI q15 n16 f17] (MA ad s.heap.size) s H locs := hw
          refine lv_astore (lv' := [(5, .ref q15), (0, .ref (ad 0)), (1, .int a1), (2, .int a2), (3, .int a3), (4, .int a4)]) hx hb dX11_together_63 hl (by decide) rfl (fun ls hl => ?_)
          refine lv_aload_n hx hb dX11_together_65 rfl (lv_at hl 1 rfl) ?_
          refine lv_aload hx hb dX11_together_66 (lv_at hl 0 rfl) ?_
          refine lv_iconst (v := (3 : Int32)) hx hb dX11_together_68 (by decide) ?_
          refine M_calli hw (MA.up hw.2.2.1.1) (va_runV (own := "LeastreaderModel") (As := [.ref q15, .int (3 : Int32)]) (rest := []) ⟨hx, hb, hml, hown, ht⟩ (c_X11_isCrowded q15 μ7 H.size n16 f17 (3 : Int32) h) (cwV 2 ht (G_V q_1524 q_1526 q_42 q_56 q_1527) rfl rfl rfl ⟨rfl, hd_109⟩ ⟨Nat.le_of_ble_eq_true rfl, Nat.le_of_ble_eq_true rfl⟩) ⟨MB.blind, M_recv hK hw, MB.pre hK hI hw (va_Pc2 (hw.n (j := 0) rfl) va_P0) (neC (hw.ne (j := 0) rfl) ne0)⟩ rfl rfl hl.1 rfl (lv_room (Nat.le_of_ble_eq_true rfl)) dX11_together_69 ⟨show 10 + 0 ≤ 48 by omega, show 1350 + 0 ≤ 3142 by omega⟩) (fun r23 μ22 H locs h hw => ?_)
          refine lv_if_eq (tgt := 77) hx hb dX11_together_72 (by decide) (fun c24 => ?_) (fun c24 => ?_)
          · have h := h.1 c24
            refine lv_iload hx hb dX11_together_77 (lv_at hl 5 rfl) ?_
            refine lv_iconst (v := (-1 : Int32)) hx hb dX11_together_79 (by decide) ?_
            refine lv_icmp_ne (tgt := 91) hx hb dX11_together_80 (by decide) (fun c25 => ?_) (fun c25 => ?_)
            · have h := h.1 c25
              refine lv_aload hx hb dX11_together_91 (lv_at hl 0 rfl) ?_
              refine lv_iload hx hb dX11_together_93 (lv_at hl 5 rfl) ?_
              refine S_callA hw (va_runS (own := "LeastreaderModel") (As := [.ref q15, .int a4]) (rest := []) ⟨hx, hb, hml, hown, ht⟩ (c_X11_ways q15 H.size n16 f17 a4 h) (va_cwS 2 ht (G_S q_1556 q_1557 q_56 q_1558) rfl rfl rfl hd_111 ⟨Nat.le_of_ble_eq_true rfl, Nat.le_of_ble_eq_true rfl⟩) ⟨SB.blind, SB.pre hK (va_Pc2 (hw.n (j := 0) rfl) va_P0)⟩ rfl rfl hl.1 rfl (lv_room (Nat.le_of_ble_eq_true rfl)) dX11_together_95 ⟨show 10 + 1 ≤ 48 by omega, show 1350 + 416 ≤ 3142 by omega⟩) (fun _ _ h _ => by obtain ⟨_, _, h, _⟩ := h; cases h) (fun q26 n27 f28 H locs hq26 h hw => ?_)
              obtain ⟨_, _, e9, h⟩ := h
              cases e9
              have hw : MW D (MR ad cI μ22) [eI cI q15 n16 f17, eI cI q26 n27 f28] (MA ad s.heap.size) s H locs := hw
              refine lv_iload hx hb dX11_together_98 (lv_at hl 5 rfl) ?_
              refine lv_aload hx hb dX11_together_100 (lv_at hl 0 rfl) ?_
              refine n_alenI hx hb hK (hw.n (j := 0) rfl) dX11_together_102 ?_
              refine lv_iconst (v := (4 : Int32)) hx hb dX11_together_103 (by decide) ?_
              refine lv_idiv hx hb dX11_together_104 (by decide) ?_
              refine lv_imul hx hb dX11_together_105 ?_
              obtain ⟨z29, h⟩ := h
              refine n_iald hx hb hK (hw.n (j := 1) rfl) z29 dX11_together_106 ?_
              exact hret H locs ls 107 _ _ _ _ _ hw h rfl (show 11 ≤ 48 by omega) (show 1766 ≤ 3142 by omega) dX11_together_107
            have h := h.2 c25
            refine lv_aload hx hb dX11_together_83 (lv_at hl 0 rfl) ?_
            refine n_alenI hx hb hK (hw.n (j := 0) rfl) dX11_together_85 ?_
            refine lv_iconst (v := (4 : Int32)) hx hb dX11_together_86 (by decide) ?_
            refine lv_idiv hx hb dX11_together_87 (by decide) ?_
            refine lv_goto (tgt := 107) hx hb dX11_together_88 (by decide) ?_
            exact hret H locs ls 107 _ _ _ _ _ hw h rfl (show 10 ≤ 48 by omega) (show 1350 ≤ 3142 by omega) dX11_together_107
          have h := h.2 c24
          refine lv_iconst (v := (0 : Int32)) hx hb dX11_together_75 (by decide) ?_
          exact hret H locs ls 76 _ _ _ _ _ hw h rfl (show 10 ≤ 48 by omega) (show 1350 ≤ 3142 by omega) dX11_together_76
        obtain ⟨e11, h⟩ := h
        rw [e11] at hw
        have h := h.2 _ _ rfl
        have hw : MW D (MR ad cI μ7) [eI cI q12 n13 f14] (MA ad s.heap.size) s H locs := hw
        refine S_callA hw (va_runS (own := "LeastreaderModel") (As := [.ref q12]) (rest := []) ⟨hx, hb, hml, hown, ht⟩ (c_X11_least q12 H.size n13 f14 h) (va_cwS 1 ht (G_S q_1470 q_1471 q_56 q_1472) rfl rfl rfl hd_87 ⟨Nat.le_of_ble_eq_true rfl, Nat.le_of_ble_eq_true rfl⟩) ⟨SB.blind, SB.pre hK (va_Pc2 (hw.n (j := 0) rfl) va_P0)⟩ rfl rfl hl.1 rfl (lv_room (Nat.le_of_ble_eq_true rfl)) dX11_together_60 ⟨show 10 + 37 ≤ 48 by omega, show 1350 + 1376 ≤ 3142 by omega⟩) (fun H locs h hw => ?_) (fun q31 n32 f33 H locs hq31 h hw => ?_)
        · skip
          have h := h.1 rfl
          refine lv_astoreN (lv' := [(5, .null), (0, .ref (ad 0)), (1, .int a1), (2, .int a2), (3, .int a3), (4, .int a4)]) hx hb dX11_together_63 hl (by decide) rfl (fun ls hl => ?_)
          refine lv_aload_n hx hb dX11_together_65 rfl (lv_at hl 1 rfl) ?_
          refine lv_aloadN hx hb dX11_together_66 (lv_at hl 0 rfl) ?_
          refine lv_iconst (v := (3 : Int32)) hx hb dX11_together_68 (by decide) ?_
          refine M_calli hw (MA.up hw.2.2.1.1) (va_runV (own := "LeastreaderModel") (As := [.null, .int (3 : Int32)]) (rest := []) ⟨hx, hb, hml, hown, ht⟩ (c_X11_isCrowded_n μ7 H.size (3 : Int32) h) (cwV 2 ht (G_V q_1524 q_1526 q_42 q_56 q_1527) rfl rfl rfl ⟨rfl, hd_109⟩ ⟨Nat.le_of_ble_eq_true rfl, Nat.le_of_ble_eq_true rfl⟩) ⟨MB.blind, M_recv hK hw, MB.pre hK hI hw va_P0 ne0⟩ rfl rfl hl.1 rfl (lv_room (Nat.le_of_ble_eq_true rfl)) dX11_together_69 ⟨show 47 + 0 ≤ 48 by omega, show 2726 + 0 ≤ 3142 by omega⟩) (fun r35 μ34 H locs h hw => ?_)
          refine lv_if_eq (tgt := 77) hx hb dX11_together_72 (by decide) (fun c36 => ?_) (fun c36 => ?_)
          · have h := h.1 c36
            refine lv_iload hx hb dX11_together_77 (lv_at hl 5 rfl) ?_
            refine lv_iconst (v := (-1 : Int32)) hx hb dX11_together_79 (by decide) ?_
            refine lv_icmp_ne (tgt := 91) hx hb dX11_together_80 (by decide) (fun c37 => ?_) (fun c37 => ?_)
            · have h := h.1 c37
              refine lv_aloadN hx hb dX11_together_91 (lv_at hl 0 rfl) ?_
              refine lv_iload hx hb dX11_together_93 (lv_at hl 5 rfl) ?_
              exact False.elim h
            have h := h.2 c37
            refine lv_aloadN hx hb dX11_together_83 (lv_at hl 0 rfl) ?_
            exact False.elim h
          have h := h.2 c36
          refine lv_iconst (v := (0 : Int32)) hx hb dX11_together_75 (by decide) ?_
          exact hret H locs ls 76 _ _ _ _ _ hw h rfl (show 47 ≤ 48 by omega) (show 2726 ≤ 3142 by omega) dX11_together_76
        have h := h.2 _ _ rfl
        have hw : MW D (MR ad cI μ7) [eI cI q12 n13 f14, eI cI q31 n32 f33] (MA ad s.heap.size) s H locs := hw
        refine lv_astore (lv' := [(5, .ref q31), (0, .ref (ad 0)), (1, .int a1), (2, .int a2), (3, .int a3), (4, .int a4)]) hx hb dX11_together_63 hl (by decide) rfl (fun ls hl => ?_)
        refine lv_aload_n hx hb dX11_together_65 rfl (lv_at hl 1 rfl) ?_
        refine lv_aload hx hb dX11_together_66 (lv_at hl 0 rfl) ?_
        refine lv_iconst (v := (3 : Int32)) hx hb dX11_together_68 (by decide) ?_
        refine M_calli hw (MA.up hw.2.2.1.1) (va_runV (own := "LeastreaderModel") (As := [.ref q31, .int (3 : Int32)]) (rest := []) ⟨hx, hb, hml, hown, ht⟩ (c_X11_isCrowded q31 μ7 H.size n32 f33 (3 : Int32) h) (cwV 2 ht (G_V q_1524 q_1526 q_42 q_56 q_1527) rfl rfl rfl ⟨rfl, hd_109⟩ ⟨Nat.le_of_ble_eq_true rfl, Nat.le_of_ble_eq_true rfl⟩) ⟨MB.blind, M_recv hK hw, MB.pre hK hI hw (va_Pc2 (hw.n (j := 1) rfl) va_P0) (neC (hw.ne (j := 1) rfl) ne0)⟩ rfl rfl hl.1 rfl (lv_room (Nat.le_of_ble_eq_true rfl)) dX11_together_69 ⟨show 47 + 0 ≤ 48 by omega, show 2726 + 0 ≤ 3142 by omega⟩) (fun r39 μ38 H locs h hw => ?_)
        refine lv_if_eq (tgt := 77) hx hb dX11_together_72 (by decide) (fun c40 => ?_) (fun c40 => ?_)
        · have h := h.1 c40
          refine lv_iload hx hb dX11_together_77 (lv_at hl 5 rfl) ?_
          refine lv_iconst (v := (-1 : Int32)) hx hb dX11_together_79 (by decide) ?_
          refine lv_icmp_ne (tgt := 91) hx hb dX11_together_80 (by decide) (fun c41 => ?_) (fun c41 => ?_)
          · have h := h.1 c41
            refine lv_aload hx hb dX11_together_91 (lv_at hl 0 rfl) ?_
            refine lv_iload hx hb dX11_together_93 (lv_at hl 5 rfl) ?_
            refine S_callA hw (va_runS (own := "LeastreaderModel") (As := [.ref q31, .int a4]) (rest := []) ⟨hx, hb, hml, hown, ht⟩ (c_X11_ways q31 H.size n32 f33 a4 h) (va_cwS 2 ht (G_S q_1556 q_1557 q_56 q_1558) rfl rfl rfl hd_111 ⟨Nat.le_of_ble_eq_true rfl, Nat.le_of_ble_eq_true rfl⟩) ⟨SB.blind, SB.pre hK (va_Pc2 (hw.n (j := 1) rfl) va_P0)⟩ rfl rfl hl.1 rfl (lv_room (Nat.le_of_ble_eq_true rfl)) dX11_together_95 ⟨show 47 + 1 ≤ 48 by omega, show 2726 + 416 ≤ 3142 by omega⟩) (fun _ _ h _ => by obtain ⟨_, _, h, _⟩ := h; cases h) (fun q42 n43 f44 H locs hq42 h hw => ?_)
            obtain ⟨_, _, e9, h⟩ := h
            cases e9
            have hw : MW D (MR ad cI μ38) [eI cI q12 n13 f14, eI cI q31 n32 f33, eI cI q42 n43 f44] (MA ad s.heap.size) s H locs := hw
            refine lv_iload hx hb dX11_together_98 (lv_at hl 5 rfl) ?_
            refine lv_aload hx hb dX11_together_100 (lv_at hl 0 rfl) ?_
            refine n_alenI hx hb hK (hw.n (j := 1) rfl) dX11_together_102 ?_
            refine lv_iconst (v := (4 : Int32)) hx hb dX11_together_103 (by decide) ?_
            refine lv_idiv hx hb dX11_together_104 (by decide) ?_
            refine lv_imul hx hb dX11_together_105 ?_
            obtain ⟨z45, h⟩ := h
            refine n_iald hx hb hK (hw.n (j := 2) rfl) z45 dX11_together_106 ?_
            exact hret H locs ls 107 _ _ _ _ _ hw h rfl (show 48 ≤ 48 by omega) (show 3142 ≤ 3142 by omega) dX11_together_107
          have h := h.2 c41
          refine lv_aload hx hb dX11_together_83 (lv_at hl 0 rfl) ?_
          refine n_alenI hx hb hK (hw.n (j := 1) rfl) dX11_together_85 ?_
          refine lv_iconst (v := (4 : Int32)) hx hb dX11_together_86 (by decide) ?_
          refine lv_idiv hx hb dX11_together_87 (by decide) ?_
          refine lv_goto (tgt := 107) hx hb dX11_together_88 (by decide) ?_
          exact hret H locs ls 107 _ _ _ _ _ hw h rfl (show 47 ≤ 48 by omega) (show 2726 ≤ 3142 by omega) dX11_together_107
        have h := h.2 c40
        refine lv_iconst (v := (0 : Int32)) hx hb dX11_together_75 (by decide) ?_
        exact hret H locs ls 76 _ _ _ _ _ hw h rfl (show 47 ≤ 48 by omega) (show 2726 ≤ 3142 by omega) dX11_together_76
      have h := h.2 c9
      refine lv_iconst (v := (0 : Int32)) hx hb dX11_together_51 (by decide) ?_
      exact hret H locs ls 52 _ _ _ _ _ hw h rfl (show 0 ≤ 48 by omega) (show 0 ≤ 3142 by omega) dX11_together_52)
    refine lv_if_eq (tgt := 44) hx hb dX11_together_26 (by decide) (fun c48 => ?_) (fun c48 => ?_)
    · have h := h.1 c48
      refine lv_iconst (v := (0 : Int32)) hx hb dX11_together_44 (by decide) ?_
      exact h H locs ls hw (lv_sub hl [0, 1, 2, 3, 4] rfl)
    have h := h.2 c48
    refine lv_iload hx hb dX11_together_29 (lv_at hl 4 rfl) ?_
    refine lv_iconst (v := (-1 : Int32)) hx hb dX11_together_31 (by decide) ?_
    refine lv_bipush (v := (12 : Int32)) hx hb dX11_together_32 (by decide) ?_
    refine P_calli (va_runS (own := "LeastreaderModel") (As := [.int a4, .int (-1 : Int32), .int (12 : Int32)]) (rest := [.int j3, .ref (ad 0)]) ⟨hx, hb, hml, hown, ht⟩ (c_X11_isIn a4 (-1 : Int32) (12 : Int32) h) (va_cwS 3 ht (G_S q_1349 q_1350 q_56 q_1351) rfl rfl rfl hd_78 ⟨Nat.le_of_ble_eq_true rfl, Nat.le_of_ble_eq_true rfl⟩) ⟨PM_blind, PM_pre⟩ rfl rfl hl.1 rfl (lv_room (Nat.le_of_ble_eq_true rfl)) dX11_together_34 ⟨show 0 + 0 ≤ 48 by omega, show 0 + 0 ≤ 3142 by omega⟩) (fun r49 h => ?_)
    refine lv_if_eq (tgt := 44) hx hb dX11_together_37 (by decide) (fun c50 => ?_) (fun c50 => ?_)
    · have h := h.1 c50
      refine lv_iconst (v := (0 : Int32)) hx hb dX11_together_44 (by decide) ?_
      exact h H locs ls hw (lv_sub hl [0, 1, 2, 3, 4] rfl)
    have h := h.2 c50
    refine lv_iconst (v := (1 : Int32)) hx hb dX11_together_40 (by decide) ?_
    refine lv_goto (tgt := 45) hx hb dX11_together_41 (by decide) ?_
    exact h H locs ls hw (lv_sub hl [0, 1, 2, 3, 4] rfl))
  refine lv_if_eq (tgt := 19) hx hb dX11_together_5 (by decide) (fun c51 => ?_) (fun c51 => ?_)
  · have h := h.1 c51
    refine lv_iconst (v := (0 : Int32)) hx hb dX11_together_19 (by decide) ?_
    exact h H locs ls hw (lv_sub hl [0, 1, 2, 3, 4] rfl)
  have h := h.2 c51
  refine lv_iload_n hx hb dX11_together_8 rfl (lv_at hl 2 rfl) ?_
  refine P_calli (va_runS (own := "LeastreaderModel") (As := [.int a2]) (rest := [.ref (ad 0)]) ⟨hx, hb, hml, hown, ht⟩ (c_X11_isOne a2 h) (va_cwS 1 ht (G_S q_1346 q_1347 q_56 q_1348) rfl rfl rfl hd_91 ⟨Nat.le_of_ble_eq_true rfl, Nat.le_of_ble_eq_true rfl⟩) ⟨PM_blind, PM_pre⟩ rfl rfl hl.1 rfl (lv_room (Nat.le_of_ble_eq_true rfl)) dX11_together_9 ⟨show 0 + 0 ≤ 48 by omega, show 0 + 0 ≤ 3142 by omega⟩) (fun r52 h => ?_)
  refine lv_if_eq (tgt := 19) hx hb dX11_together_12 (by decide) (fun c53 => ?_) (fun c53 => ?_)
  · have h := h.1 c53
    refine lv_iconst (v := (0 : Int32)) hx hb dX11_together_19 (by decide) ?_
    exact h H locs ls hw (lv_sub hl [0, 1, 2, 3, 4] rfl)
  have h := h.2 c53
  refine lv_iconst (v := (1 : Int32)) hx hb dX11_together_15 (by decide) ?_
  refine lv_goto (tgt := 20) hx hb dX11_together_16 (by decide) ?_
  exact h H locs ls hw (lv_sub hl [0, 1, 2, 3, 4] rfl)
def wp_X11_house (μ : TMem) (a1 : Int32) (Q : Int32 → TMem → Prop) : Prop :=
  wp_X11_isIn a1 (0 : Int32) (2 : Int32) (fun (r1 : Int32) => wp_X11_isThrown μ r1 (1 : Int32) (fun (r3 : Int32) (μ2 : TMem) => (r3 = 0 → ((¬ a1 = 0 → ((¬ a1 = (1 : Int32) → (Q (μ2 0 6) μ2)) ∧ (a1 = (1 : Int32) → (Q (μ2 0 5) μ2)))) ∧ (a1 = 0 → (Q (μ2 0 4) μ2)))) ∧ (¬ r3 = 0 → (Q (0 : Int32) μ2))))
set_option maxHeartbeats 4000000 in
set_option maxRecDepth 100000 in
theorem c_X11_house {l : Launch} {D : va_G} {ad : Nat → Nat} {cI cL : ClassId}  (μ : TMem) (sz : Nat) (a1 : Int32)  {Q : Int32 → TMem → Prop} (h : wp_X11_house μ a1 Q) : MMi l yX11_house (.code yX11_house cX11_house 2 (Option.some Jvm.ClassFile.FieldType.int)) 1 0 0 [.ref (ad 0), .int a1] D ad cI cL sz μ [] Q := by
  refine M_meti (by decide +kernel) (Nat.le_of_ble_eq_true rfl) ?_
  intro p e s m below meth c Z ls hx hb hml hown ht hK hP0 hI hne hw hret hl
  have hl : lv_has ls 2 [(0, .ref (ad 0)), (1, .int a1)] := hl
  suffices hh : ∀ (H : Heap) (locs : List Loc), MW D (MR ad cI μ) [] (MA ad s.heap.size) s H locs → W p l e (RA 1 0 0) s m #[.ref (ad 0), .int a1] below meth c H locs 0 0 Z (F0 m 0 ls []) from hh _ _ hw
  intro H locs hw
  change wp_X11_isIn a1 (0 : Int32) (2 : Int32) (fun (r1 : Int32) => wp_X11_isThrown μ r1 (1 : Int32) (fun (r3 : Int32) (μ2 : TMem) => (r3 = 0 → ((¬ a1 = 0 → ((¬ a1 = (1 : Int32) → (Q (μ2 0 6) μ2)) ∧ (a1 = (1 : Int32) → (Q (μ2 0 5) μ2)))) ∧ (a1 = 0 → (Q (μ2 0 4) μ2)))) ∧ (¬ r3 = 0 → (Q (0 : Int32) μ2)))) at h
  refine lv_aload_n hx hb dX11_house_0 rfl (lv_at hl 0 rfl) ?_
  refine lv_iload_n hx hb dX11_house_1 rfl (lv_at hl 1 rfl) ?_
  refine lv_iconst (v := (0 : Int32)) hx hb dX11_house_2 (by decide) ?_
  refine lv_iconst (v := (2 : Int32)) hx hb dX11_house_3 (by decide) ?_
  refine P_calli (va_runS (own := "LeastreaderModel") (As := [.int a1, .int (0 : Int32), .int (2 : Int32)]) (rest := [.ref (ad 0)]) ⟨hx, hb, hml, hown, ht⟩ (c_X11_isIn a1 (0 : Int32) (2 : Int32) h) (va_cwS 3 ht (G_S q_1349 q_1350 q_56 q_1351) rfl rfl rfl hd_78 ⟨Nat.le_of_ble_eq_true rfl, Nat.le_of_ble_eq_true rfl⟩) ⟨PM_blind, PM_pre⟩ rfl rfl hl.1 rfl (lv_room (Nat.le_of_ble_eq_true rfl)) dX11_house_4 ⟨show 0 + 0 ≤ 0 by omega, show 0 + 0 ≤ 0 by omega⟩) (fun r1 h => ?_)
  refine lv_iconst (v := (1 : Int32)) hx hb dX11_house_7 (by decide) ?_
  refine M_calli hw (MA.up hw.2.2.1.1) (va_runV (own := "LeastreaderModel") (As := [.int r1, .int (1 : Int32)]) (rest := []) ⟨hx, hb, hml, hown, ht⟩ (c_X11_isThrown μ H.size r1 (1 : Int32) h) (cwV 2 ht (G_V q_1352 q_1354 q_26 q_56 q_1355) rfl rfl rfl ⟨rfl, hd_92⟩ ⟨Nat.le_of_ble_eq_true rfl, Nat.le_of_ble_eq_true rfl⟩) ⟨MB.blind, M_recv hK hw, MB.pre hK hI hw va_P0 ne0⟩ rfl rfl hl.1 rfl (lv_room (Nat.le_of_ble_eq_true rfl)) dX11_house_8 ⟨show 0 + 0 ≤ 0 by omega, show 0 + 0 ≤ 0 by omega⟩) (fun r3 μ2 H locs h hw => ?_)
  refine lv_if_eq (tgt := 16) hx hb dX11_house_11 (by decide) (fun c4 => ?_) (fun c4 => ?_)
  · have h := h.1 c4
    refine lv_iload_n hx hb dX11_house_16 rfl (lv_at hl 1 rfl) ?_
    refine lv_if_ne (tgt := 27) hx hb dX11_house_17 (by decide) (fun c5 => ?_) (fun c5 => ?_)
    · have h := h.1 c5
      refine lv_iload_n hx hb dX11_house_27 rfl (lv_at hl 1 rfl) ?_
      refine lv_iconst (v := (1 : Int32)) hx hb dX11_house_28 (by decide) ?_
      refine lv_icmp_ne (tgt := 39) hx hb dX11_house_29 (by decide) (fun c6 => ?_) (fun c6 => ?_)
      · have h := h.1 c6
        refine lv_aload_n hx hb dX11_house_39 rfl (lv_at hl 0 rfl) ?_
        refine m_get (i := 6) hx hb ht hown hK hw (by decide) (ht _ q_1319) rfl rfl dX11_house_40 ?_
        exact hret H locs ls 43 _ _ _ _ _ hw h rfl (show 0 ≤ 0 by omega) (show 0 ≤ 0 by omega) dX11_house_43
      have h := h.2 c6
      refine lv_aload_n hx hb dX11_house_32 rfl (lv_at hl 0 rfl) ?_
      refine m_get (i := 5) hx hb ht hown hK hw (by decide) (ht _ q_1318) rfl rfl dX11_house_33 ?_
      refine lv_goto (tgt := 43) hx hb dX11_house_36 (by decide) ?_
      exact hret H locs ls 43 _ _ _ _ _ hw h rfl (show 0 ≤ 0 by omega) (show 0 ≤ 0 by omega) dX11_house_43
    have h := h.2 c5
    refine lv_aload_n hx hb dX11_house_20 rfl (lv_at hl 0 rfl) ?_
    refine m_get (i := 4) hx hb ht hown hK hw (by decide) (ht _ q_1317) rfl rfl dX11_house_21 ?_
    refine lv_goto (tgt := 43) hx hb dX11_house_24 (by decide) ?_
    exact hret H locs ls 43 _ _ _ _ _ hw h rfl (show 0 ≤ 0 by omega) (show 0 ≤ 0 by omega) dX11_house_43
  have h := h.2 c4
  refine lv_iconst (v := (0 : Int32)) hx hb dX11_house_14 (by decide) ?_
  exact hret H locs ls 15 _ _ _ _ _ hw h rfl (show 0 ≤ 0 by omega) (show 0 ≤ 0 by omega) dX11_house_15
def wp_X11_knock (μ : TMem)  (Q : Int32 → TMem → Prop) : Prop :=
  Q ((tms (tms μ 0 7 (0 : Int32)) 0 6 (((tms μ 0 7 (0 : Int32)) 0 6) + (1 : Int32))) 0 6) (tms (tms μ 0 7 (0 : Int32)) 0 6 (((tms μ 0 7 (0 : Int32)) 0 6) + (1 : Int32)))
set_option maxHeartbeats 4000000 in
set_option maxRecDepth 100000 in
theorem c_X11_knock {l : Launch} {D : va_G} {ad : Nat → Nat} {cI cL : ClassId}  (μ : TMem) (sz : Nat)   {Q : Int32 → TMem → Prop} (h : wp_X11_knock μ Q) : MMi l yX11_knock (.code yX11_knock cX11_knock 1 (Option.some Jvm.ClassFile.FieldType.int)) 0 0 0 [.ref (ad 0)] D ad cI cL sz μ [] Q := by
  refine M_meti (by decide +kernel) (Nat.le_of_ble_eq_true rfl) ?_
  intro p e s m below meth c Z ls hx hb hml hown ht hK hP0 hI hne hw hret hl
  have hl : lv_has ls 1 [(0, .ref (ad 0))] := hl
  suffices hh : ∀ (H : Heap) (locs : List Loc), MW D (MR ad cI μ) [] (MA ad s.heap.size) s H locs → W p l e (RA 0 0 0) s m #[.ref (ad 0)] below meth c H locs 0 0 Z (F0 m 0 ls []) from hh _ _ hw
  intro H locs hw
  change Q ((tms (tms μ 0 7 (0 : Int32)) 0 6 (((tms μ 0 7 (0 : Int32)) 0 6) + (1 : Int32))) 0 6) (tms (tms μ 0 7 (0 : Int32)) 0 6 (((tms μ 0 7 (0 : Int32)) 0 6) + (1 : Int32))) at h
  refine lv_aload_n hx hb dX11_knock_0 rfl (lv_at hl 0 rfl) ?_
  refine lv_iconst (v := (0 : Int32)) hx hb dX11_knock_1 (by decide) ?_
  refine m_put (i := 7) hx hb ht hown hK hw (by decide) (by decide) (ht _ q_1320) rfl rfl rfl dX11_knock_2 (fun H locs hw => ?_)
  refine lv_aload_n hx hb dX11_knock_5 rfl (lv_at hl 0 rfl) ?_
  refine lv_dup hx hb dX11_knock_6 rfl ?_
  refine m_get (i := 6) hx hb ht hown hK hw (by decide) (ht _ q_1319) rfl rfl dX11_knock_7 ?_
  refine lv_iconst (v := (1 : Int32)) hx hb dX11_knock_10 (by decide) ?_
  refine lv_iadd hx hb dX11_knock_11 ?_
  refine m_put (i := 6) hx hb ht hown hK hw (by decide) (by decide) (ht _ q_1319) rfl rfl rfl dX11_knock_12 (fun H locs hw => ?_)
  refine lv_aload_n hx hb dX11_knock_15 rfl (lv_at hl 0 rfl) ?_
  refine m_get (i := 6) hx hb ht hown hK hw (by decide) (ht _ q_1319) rfl rfl dX11_knock_16 ?_
  exact hret H locs ls 19 _ _ _ _ _ hw h rfl (show 0 ≤ 0 by omega) (show 0 ≤ 0 by omega) dX11_knock_19
def wp_X11_isSound (μ : TMem)  (Q : Int32 → TMem → Prop) : Prop :=
  Q (1 : Int32) (tms μ 0 7 (0 : Int32))
set_option maxHeartbeats 4000000 in
set_option maxRecDepth 100000 in
theorem c_X11_isSound {l : Launch} {D : va_G} {ad : Nat → Nat} {cI cL : ClassId}  (μ : TMem) (sz : Nat)   {Q : Int32 → TMem → Prop} (h : wp_X11_isSound μ Q) : MMi l yX11_isSound (.code yX11_isSound cX11_isSound 1 (Option.some Jvm.ClassFile.FieldType.boolean)) 0 0 0 [.ref (ad 0)] D ad cI cL sz μ [] Q := by
  refine M_meti (by decide +kernel) (Nat.le_of_ble_eq_true rfl) ?_
  intro p e s m below meth c Z ls hx hb hml hown ht hK hP0 hI hne hw hret hl
  have hl : lv_has ls 1 [(0, .ref (ad 0))] := hl
  suffices hh : ∀ (H : Heap) (locs : List Loc), MW D (MR ad cI μ) [] (MA ad s.heap.size) s H locs → W p l e (RA 0 0 0) s m #[.ref (ad 0)] below meth c H locs 0 0 Z (F0 m 0 ls []) from hh _ _ hw
  intro H locs hw
  change Q (1 : Int32) (tms μ 0 7 (0 : Int32)) at h
  refine lv_aload_n hx hb dX11_isSound_0 rfl (lv_at hl 0 rfl) ?_
  refine lv_iconst (v := (0 : Int32)) hx hb dX11_isSound_1 (by decide) ?_
  refine m_put (i := 7) hx hb ht hown hK hw (by decide) (by decide) (ht _ q_1320) rfl rfl rfl dX11_isSound_2 (fun H locs hw => ?_)
  refine lv_iconst (v := (1 : Int32)) hx hb dX11_isSound_5 (by decide) ?_
  exact hret H locs ls 6 _ _ _ _ _ hw h rfl (show 0 ≤ 0 by omega) (show 0 ≤ 0 by omega) dX11_isSound_6
def wpl_X11_digest_14 (v8 : Int32) (K41 : Int64 → TMem → Prop) : Nat → Int32 → Int64 → TMem → Prop
  | 0, _, _, _ => False
  | n + 1, v7, v9, μ10 =>
    ((5 : Int32) ≤ v7 → (K41 v9 μ10)) ∧ (¬ (5 : Int32) ≤ v7 → (wp_X11_tell μ10 v8 v7 (fun (r13 : Int32) (μ12 : TMem) => wpl_X11_digest_14 v8 K41 n (v7 + (1 : Int32)) ((v9 * (31 : Int64)) + (r13.toInt64)) μ12)))
def wpl_X11_digest_44 (μ16 : TMem) (v19 : Int32) (K85 : Int64 → Prop) : Nat → Int32 → Int64 → Prop
  | 0, _, _ => False
  | n + 1, v18, v20 =>
    vp_in v19 (ml 1) ∧ ((((μ16 1 v19.toNatClampNeg) * (3 : Int32)) ≤ v18 → (K85 v20)) ∧ (¬ ((μ16 1 v19.toNatClampNeg) * (3 : Int32)) ≤ v18 → (wp_X11_key v19 (0 : Int32) (0 : Int32) (fun (r23 : Int32) => vp_in (r23 + v18) (ml 4) ∧ (wpl_X11_digest_44 μ16 v19 K85 n (v18 + (1 : Int32)) ((v20 * (31 : Int64)) + ((μ16 4 (r23 + v18).toNatClampNeg).toInt64)))))))
def wpl_X11_digest_6 (K91 : Int64 → TMem → Prop) : Nat → Int32 → Int64 → TMem → Prop
  | 0, _, _, _ => False
  | n + 1, v2, v3, μ4 =>
    ((4 : Int32) ≤ v2 → (K91 v3 μ4)) ∧ (¬ (4 : Int32) ≤ v2 → (∃ n5x, wpl_X11_digest_14 v2 (fun (u15 : Int64) (μ16 : TMem) => ∃ n16x, wpl_X11_digest_44 μ16 v2 (fun (u26 : Int64) => wpl_X11_digest_6 K91 n (v2 + (1 : Int32)) u26 μ16) n16x (0 : Int32) u15) n5x (0 : Int32) v3 μ4))
def wp_X11_digest (μ : TMem)  (Q : Int64 → TMem → Prop) : Prop :=
  ∃ n0x, wpl_X11_digest_6 (fun (u28 : Int64) (μ29 : TMem) => Q ((((((((u28 * (31 : Int64)) + (((tms μ29 0 7 (0 : Int32)) 0 4).toInt64)) * (31 : Int64)) + (((tms μ29 0 7 (0 : Int32)) 0 5).toInt64)) * (31 : Int64)) + (((tms μ29 0 7 (0 : Int32)) 0 6).toInt64)) * (31 : Int64)) + (1 : Int64)) (tms μ29 0 7 (0 : Int32))) n0x (0 : Int32) (8025 : Int64) μ
set_option maxHeartbeats 4000000 in
set_option maxRecDepth 100000 in
theorem c_X11_digest {l : Launch} {D : va_G} {ad : Nat → Nat} {cI cL : ClassId}  (μ : TMem) (sz : Nat)   {Q : Int64 → TMem → Prop} (h : wp_X11_digest μ Q) : MMl l yX11_digest (.code yX11_digest cX11_digest 5 (Option.some Jvm.ClassFile.FieldType.long)) 3 0 0 [.ref (ad 0)] D ad cI cL sz μ [] Q := by
  refine M_metl (by decide +kernel) (Nat.le_of_ble_eq_true rfl) ?_
  intro p e s m below meth c Z ls hx hb hml hown ht hK hP0 hI hne hw hret hl
  have hl : lv_has ls 5 [(0, .ref (ad 0))] := hl
  suffices hh : ∀ (H : Heap) (locs : List Loc), MW D (MR ad cI μ) [] (MA ad s.heap.size) s H locs → W p l e (RA 3 0 0) s m #[.ref (ad 0)] below meth c H locs 0 0 Z (F0 m 0 ls []) from hh _ _ hw
  intro H locs hw
  change ∃ n0x, wpl_X11_digest_6 (fun (u28 : Int64) (μ29 : TMem) => Q ((((((((u28 * (31 : Int64)) + (((tms μ29 0 7 (0 : Int32)) 0 4).toInt64)) * (31 : Int64)) + (((tms μ29 0 7 (0 : Int32)) 0 5).toInt64)) * (31 : Int64)) + (((tms μ29 0 7 (0 : Int32)) 0 6).toInt64)) * (31 : Int64)) + (1 : Int64)) (tms μ29 0 7 (0 : Int32))) n0x (0 : Int32) (8025 : Int64) μ at h
  refine lv_ldc2 (v := (8025 : Int64)) hx hb hown (ht _ q_1604) dX11_digest_0 ?_
  refine lv_lstore_n (lv' := [(1, .long (8025 : Int64)), (0, .ref (ad 0))]) hx hb dX11_digest_3 rfl hl (by decide) rfl (fun ls hl => ?_)
  refine lv_iconst (v := (0 : Int32)) hx hb dX11_digest_4 (by decide) ?_
  refine lv_istore_n (lv' := [(3, .int (0 : Int32)), (1, .long (8025 : Int64)), (0, .ref (ad 0))]) hx hb dX11_digest_5 rfl hl (by decide) rfl (fun ls hl => ?_)
  obtain ⟨n27, h⟩ := h
  have L0 : ∀ (K91 : Int64 → TMem → Prop), (∀ (v3 : Int64) (μ4 : TMem), ∀ (H : Heap) (locs : List Loc) (ls : Array Slot), MW D (MR ad cI μ4) [] (MA ad s.heap.size) s H locs → lv_has ls 5 [(1, .long v3), (0, .ref (ad 0))] → K91 v3 μ4 → W p l e (RA 3 0 0) s m #[.ref (ad 0)] below meth c H locs 0 0 Z (F0 m 91 ls [])) → ∀ (n : Nat), ∀ (v2 : Int32) (v3 : Int64) (μ4 : TMem), ∀ (H : Heap) (locs : List Loc) (ls : Array Slot), MW D (MR ad cI μ4) [] (MA ad s.heap.size) s H locs → lv_has ls 5 [(3, .int v2), (1, .long v3), (0, .ref (ad 0))] → wpl_X11_digest_6 K91 n v2 v3 μ4 → W p l e (RA 3 0 0) s m #[.ref (ad 0)] below meth c H locs 0 0 Z (F0 m 6 ls []) := by
    intro K91 hK91
    intro n
    induction n with
    | zero => intro v2 v3 μ4 H locs ls hw hl h; exact False.elim h
    | succ n ih0 =>
      intro v2 v3 μ4 H locs ls hw hl h
      change ((4 : Int32) ≤ v2 → (K91 v3 μ4)) ∧ (¬ (4 : Int32) ≤ v2 → (∃ n5x, wpl_X11_digest_14 v2 (fun (u15 : Int64) (μ16 : TMem) => ∃ n16x, wpl_X11_digest_44 μ16 v2 (fun (u26 : Int64) => wpl_X11_digest_6 K91 n (v2 + (1 : Int32)) u26 μ16) n16x (0 : Int32) u15) n5x (0 : Int32) v3 μ4)) at h
      refine lv_iload_n hx hb dX11_digest_6 rfl (lv_at hl 0 rfl) ?_
      refine lv_iconst (v := (4 : Int32)) hx hb dX11_digest_7 (by decide) ?_
      refine lv_icmp_ge (tgt := 91) hx hb dX11_digest_8 (by decide) (fun c5 => ?_) (fun c5 => ?_)
      · have h := h.1 c5
        exact hK91 v3 μ4 H locs ls hw (lv_sub hl [1, 2] rfl) h
      have h := h.2 c5
      refine lv_iconst (v := (0 : Int32)) hx hb dX11_digest_11 (by decide) ?_
      refine lv_istore (lv' := [(4, .int (0 : Int32)), (3, .int v2), (1, .long v3), (0, .ref (ad 0))]) hx hb dX11_digest_12 hl (by decide) rfl (fun ls hl => ?_)
      obtain ⟨n14, h⟩ := h
      have L5 : ∀ (v8 : Int32) (K41 : Int64 → TMem → Prop), (∀ (v9 : Int64) (μ10 : TMem), ∀ (H : Heap) (locs : List Loc) (ls : Array Slot), MW D (MR ad cI μ10) [] (MA ad s.heap.size) s H locs → lv_has ls 5 [(3, .int v8), (1, .long v9), (0, .ref (ad 0))] → K41 v9 μ10 → W p l e (RA 3 0 0) s m #[.ref (ad 0)] below meth c H locs 0 0 Z (F0 m 41 ls [])) → ∀ (n : Nat), ∀ (v7 : Int32) (v9 : Int64) (μ10 : TMem), ∀ (H : Heap) (locs : List Loc) (ls : Array Slot), MW D (MR ad cI μ10) [] (MA ad s.heap.size) s H locs → lv_has ls 5 [(4, .int v7), (3, .int v8), (1, .long v9), (0, .ref (ad 0))] → wpl_X11_digest_14 v8 K41 n v7 v9 μ10 → W p l e (RA 3 0 0) s m #[.ref (ad 0)] below meth c H locs 0 0 Z (F0 m 14 ls []) := by
        intro v8 K41 hK41
        intro n
        induction n with
        | zero => intro v7 v9 μ10 H locs ls hw hl h; exact False.elim h
        | succ n ih5 =>
          intro v7 v9 μ10 H locs ls hw hl h
          change ((5 : Int32) ≤ v7 → (K41 v9 μ10)) ∧ (¬ (5 : Int32) ≤ v7 → (wp_X11_tell μ10 v8 v7 (fun (r13 : Int32) (μ12 : TMem) => wpl_X11_digest_14 v8 K41 n (v7 + (1 : Int32)) ((v9 * (31 : Int64)) + (r13.toInt64)) μ12))) at h
          refine lv_iload hx hb dX11_digest_14 (lv_at hl 0 rfl) ?_
          refine lv_iconst (v := (5 : Int32)) hx hb dX11_digest_16 (by decide) ?_
          refine lv_icmp_ge (tgt := 41) hx hb dX11_digest_17 (by decide) (fun c11 => ?_) (fun c11 => ?_)
          · have h := h.1 c11
            exact hK41 v9 μ10 H locs ls hw (lv_sub hl [1, 2, 3] rfl) h
          have h := h.2 c11
          refine lv_lload_n hx hb dX11_digest_20 rfl (lv_at hl 2 rfl) ?_
          refine lv_ldc2 (v := (31 : Int64)) hx hb hown (ht _ q_1605) dX11_digest_21 ?_
          refine lv_lmul hx hb dX11_digest_24 ?_
          refine lv_aload_n hx hb dX11_digest_25 rfl (lv_at hl 3 rfl) ?_
          refine lv_iload_n hx hb dX11_digest_26 rfl (lv_at hl 1 rfl) ?_
          refine lv_iload hx hb dX11_digest_27 (lv_at hl 0 rfl) ?_
          refine M_calli hw (MA.up hw.2.2.1.1) (va_runV (own := "LeastreaderModel") (As := [.int v8, .int v7]) (rest := [.long (v9 * (31 : Int64))]) ⟨hx, hb, hml, hown, ht⟩ (c_X11_tell μ10 H.size v8 v7 h) (cwV 2 ht (G_V q_1606 q_1499 q_1500 q_56 q_1501) rfl rfl rfl ⟨rfl, hd_114⟩ ⟨Nat.le_of_ble_eq_true rfl, Nat.le_of_ble_eq_true rfl⟩) ⟨MB.blind, M_recv hK hw, MB.pre hK hI hw va_P0 ne0⟩ rfl rfl hl.1 rfl (lv_room (Nat.le_of_ble_eq_true rfl)) dX11_digest_29 ⟨show 0 + 0 ≤ 0 by omega, show 0 + 0 ≤ 0 by omega⟩) (fun r13 μ12 H locs h hw => ?_)
          refine lv_i2l hx hb dX11_digest_32 rfl ?_
          refine lv_ladd hx hb dX11_digest_33 ?_
          refine lv_lstore_n (lv' := [(1, .long ((v9 * (31 : Int64)) + (r13.toInt64))), (4, .int v7), (3, .int v8), (0, .ref (ad 0))]) hx hb dX11_digest_34 rfl hl (by decide) rfl (fun ls hl => ?_)
          refine lv_iinc (v := (v7 + (1 : Int32))) (lv' := [(4, .int (v7 + (1 : Int32))), (1, .long ((v9 * (31 : Int64)) + (r13.toInt64))), (3, .int v8), (0, .ref (ad 0))]) hx hb dX11_digest_35 hl (k := 1) rfl rfl (by decide) rfl (fun ls hl => ?_)
          refine lv_goto (tgt := 14) hx hb dX11_digest_38 (by decide) ?_
          exact ih5 (v7 + (1 : Int32)) ((v9 * (31 : Int64)) + (r13.toInt64)) μ12 H locs ls hw (lv_sub hl [0, 2, 1, 3] rfl) h
      refine L5 v2 _ ?_ n14 (0 : Int32) v3 μ4 H locs ls hw (lv_sub hl [0, 1, 2, 3] rfl) h
      intro u15 μ16 H locs ls hw hl h
      refine lv_iconst (v := (0 : Int32)) hx hb dX11_digest_41 (by decide) ?_
      refine lv_istore (lv' := [(4, .int (0 : Int32)), (3, .int v2), (1, .long u15), (0, .ref (ad 0))]) hx hb dX11_digest_42 hl (by decide) rfl (fun ls hl => ?_)
      obtain ⟨n25, h⟩ := h
      have L16 : ∀ (v19 : Int32) (K85 : Int64 → Prop), (∀ (v20 : Int64), ∀ (H : Heap) (locs : List Loc) (ls : Array Slot), MW D (MR ad cI μ16) [] (MA ad s.heap.size) s H locs → lv_has ls 5 [(3, .int v19), (1, .long v20), (0, .ref (ad 0))] → K85 v20 → W p l e (RA 3 0 0) s m #[.ref (ad 0)] below meth c H locs 0 0 Z (F0 m 85 ls [])) → ∀ (n : Nat), ∀ (v18 : Int32) (v20 : Int64), ∀ (H : Heap) (locs : List Loc) (ls : Array Slot), MW D (MR ad cI μ16) [] (MA ad s.heap.size) s H locs → lv_has ls 5 [(4, .int v18), (3, .int v19), (1, .long v20), (0, .ref (ad 0))] → wpl_X11_digest_44 μ16 v19 K85 n v18 v20 → W p l e (RA 3 0 0) s m #[.ref (ad 0)] below meth c H locs 0 0 Z (F0 m 44 ls []) := by
        intro v19 K85 hK85
        intro n
        induction n with
        | zero => intro v18 v20 H locs ls hw hl h; exact False.elim h
        | succ n ih16 =>
          intro v18 v20 H locs ls hw hl h
          change vp_in v19 (ml 1) ∧ ((((μ16 1 v19.toNatClampNeg) * (3 : Int32)) ≤ v18 → (K85 v20)) ∧ (¬ ((μ16 1 v19.toNatClampNeg) * (3 : Int32)) ≤ v18 → (wp_X11_key v19 (0 : Int32) (0 : Int32) (fun (r23 : Int32) => vp_in (r23 + v18) (ml 4) ∧ (wpl_X11_digest_44 μ16 v19 K85 n (v18 + (1 : Int32)) ((v20 * (31 : Int64)) + ((μ16 4 (r23 + v18).toNatClampNeg).toInt64))))))) at h
          refine lv_iload hx hb dX11_digest_44 (lv_at hl 0 rfl) ?_
          refine lv_aload_n hx hb dX11_digest_46 rfl (lv_at hl 3 rfl) ?_
          refine m_get (i := 0) hx hb ht hown hK hw (by decide) (ht _ q_1313) rfl rfl dX11_digest_47 ?_
          refine lv_iload_n hx hb dX11_digest_50 rfl (lv_at hl 1 rfl) ?_
          obtain ⟨z21, h⟩ := h
          refine m_iald hx hb hK hw (by decide) z21 dX11_digest_51 ?_
          refine lv_iconst (v := (3 : Int32)) hx hb dX11_digest_52 (by decide) ?_
          refine lv_imul hx hb dX11_digest_53 ?_
          refine lv_icmp_ge (tgt := 85) hx hb dX11_digest_54 (by decide) (fun c22 => ?_) (fun c22 => ?_)
          · have h := h.1 c22
            exact hK85 v20 H locs ls hw (lv_sub hl [1, 2, 3] rfl) h
          have h := h.2 c22
          refine lv_lload_n hx hb dX11_digest_57 rfl (lv_at hl 2 rfl) ?_
          refine lv_ldc2 (v := (31 : Int64)) hx hb hown (ht _ q_1605) dX11_digest_58 ?_
          refine lv_lmul hx hb dX11_digest_61 ?_
          refine lv_aload_n hx hb dX11_digest_62 rfl (lv_at hl 3 rfl) ?_
          refine m_get (i := 3) hx hb ht hown hK hw (by decide) (ht _ q_1316) rfl rfl dX11_digest_63 ?_
          refine lv_iload_n hx hb dX11_digest_66 rfl (lv_at hl 1 rfl) ?_
          refine lv_iconst (v := (0 : Int32)) hx hb dX11_digest_67 (by decide) ?_
          refine lv_iconst (v := (0 : Int32)) hx hb dX11_digest_68 (by decide) ?_
          refine P_calli (va_runS (own := "LeastreaderModel") (As := [.int v19, .int (0 : Int32), .int (0 : Int32)]) (rest := [.ref (ad 4), .long (v20 * (31 : Int64))]) ⟨hx, hb, hml, hown, ht⟩ (c_X11_key v19 (0 : Int32) (0 : Int32) h) (va_cwS 3 ht (G_S q_1360 q_1361 q_56 q_1362) rfl rfl rfl hd_79 ⟨Nat.le_of_ble_eq_true rfl, Nat.le_of_ble_eq_true rfl⟩) ⟨PM_blind, PM_pre⟩ rfl rfl hl.1 rfl (lv_room (Nat.le_of_ble_eq_true rfl)) dX11_digest_69 ⟨show 0 + 0 ≤ 0 by omega, show 0 + 0 ≤ 0 by omega⟩) (fun r23 h => ?_)
          refine lv_iload hx hb dX11_digest_72 (lv_at hl 0 rfl) ?_
          refine lv_iadd hx hb dX11_digest_74 ?_
          obtain ⟨z24, h⟩ := h
          refine m_iald hx hb hK hw (by decide) z24 dX11_digest_75 ?_
          refine lv_i2l hx hb dX11_digest_76 rfl ?_
          refine lv_ladd hx hb dX11_digest_77 ?_
          refine lv_lstore_n (lv' := [(1, .long ((v20 * (31 : Int64)) + ((μ16 4 (r23 + v18).toNatClampNeg).toInt64))), (4, .int v18), (3, .int v19), (0, .ref (ad 0))]) hx hb dX11_digest_78 rfl hl (by decide) rfl (fun ls hl => ?_)
          refine lv_iinc (v := (v18 + (1 : Int32))) (lv' := [(4, .int (v18 + (1 : Int32))), (1, .long ((v20 * (31 : Int64)) + ((μ16 4 (r23 + v18).toNatClampNeg).toInt64))), (3, .int v19), (0, .ref (ad 0))]) hx hb dX11_digest_79 hl (k := 1) rfl rfl (by decide) rfl (fun ls hl => ?_)
          refine lv_goto (tgt := 44) hx hb dX11_digest_82 (by decide) ?_
          exact ih16 (v18 + (1 : Int32)) ((v20 * (31 : Int64)) + ((μ16 4 (r23 + v18).toNatClampNeg).toInt64)) H locs ls hw (lv_sub hl [0, 2, 1, 3] rfl) h
      refine L16 v2 _ ?_ n25 (0 : Int32) u15 H locs ls hw (lv_sub hl [0, 1, 2, 3] rfl) h
      intro u26 H locs ls hw hl h
      refine lv_iinc (v := (v2 + (1 : Int32))) (lv' := [(3, .int (v2 + (1 : Int32))), (1, .long u26), (0, .ref (ad 0))]) hx hb dX11_digest_85 hl (k := 0) rfl rfl (by decide) rfl (fun ls hl => ?_)
      refine lv_goto (tgt := 6) hx hb dX11_digest_88 (by decide) ?_
      exact ih0 (v2 + (1 : Int32)) u26 μ16 H locs ls hw (lv_sub hl [0, 1, 2] rfl) h
  refine L0 _ ?_ n27 (0 : Int32) (8025 : Int64) μ H locs ls hw (lv_sub hl [0, 1, 2] rfl) h
  intro u28 μ29 H locs ls hw hl h
  refine lv_aload_n hx hb dX11_digest_91 rfl (lv_at hl 1 rfl) ?_
  refine lv_iconst (v := (0 : Int32)) hx hb dX11_digest_92 (by decide) ?_
  refine m_put (i := 7) hx hb ht hown hK hw (by decide) (by decide) (ht _ q_1320) rfl rfl rfl dX11_digest_93 (fun H locs hw => ?_)
  refine lv_lload_n hx hb dX11_digest_96 rfl (lv_at hl 0 rfl) ?_
  refine lv_ldc2 (v := (31 : Int64)) hx hb hown (ht _ q_1605) dX11_digest_97 ?_
  refine lv_lmul hx hb dX11_digest_100 ?_
  refine lv_aload_n hx hb dX11_digest_101 rfl (lv_at hl 1 rfl) ?_
  refine m_get (i := 4) hx hb ht hown hK hw (by decide) (ht _ q_1317) rfl rfl dX11_digest_102 ?_
  refine lv_i2l hx hb dX11_digest_105 rfl ?_
  refine lv_ladd hx hb dX11_digest_106 ?_
  refine lv_ldc2 (v := (31 : Int64)) hx hb hown (ht _ q_1605) dX11_digest_107 ?_
  refine lv_lmul hx hb dX11_digest_110 ?_
  refine lv_aload_n hx hb dX11_digest_111 rfl (lv_at hl 1 rfl) ?_
  refine m_get (i := 5) hx hb ht hown hK hw (by decide) (ht _ q_1318) rfl rfl dX11_digest_112 ?_
  refine lv_i2l hx hb dX11_digest_115 rfl ?_
  refine lv_ladd hx hb dX11_digest_116 ?_
  refine lv_ldc2 (v := (31 : Int64)) hx hb hown (ht _ q_1605) dX11_digest_117 ?_
  refine lv_lmul hx hb dX11_digest_120 ?_
  refine lv_aload_n hx hb dX11_digest_121 rfl (lv_at hl 1 rfl) ?_
  refine m_get (i := 6) hx hb ht hown hK hw (by decide) (ht _ q_1319) rfl rfl dX11_digest_122 ?_
  refine lv_i2l hx hb dX11_digest_125 rfl ?_
  refine lv_ladd hx hb dX11_digest_126 ?_
  refine lv_lstore_n (lv' := [(1, .long ((((((u28 * (31 : Int64)) + (((tms μ29 0 7 (0 : Int32)) 0 4).toInt64)) * (31 : Int64)) + (((tms μ29 0 7 (0 : Int32)) 0 5).toInt64)) * (31 : Int64)) + (((tms μ29 0 7 (0 : Int32)) 0 6).toInt64))), (0, .ref (ad 0))]) hx hb dX11_digest_127 rfl hl (by decide) rfl (fun ls hl => ?_)
  refine lv_lload_n hx hb dX11_digest_128 rfl (lv_at hl 0 rfl) ?_
  refine lv_ldc2 (v := (31 : Int64)) hx hb hown (ht _ q_1605) dX11_digest_129 ?_
  refine lv_lmul hx hb dX11_digest_132 ?_
  refine lv_lconst (v := (1 : Int64)) hx hb dX11_digest_133 (by decide) ?_
  refine lv_ladd hx hb dX11_digest_134 ?_
  exact hret H locs ls 135 _ _ _ _ _ hw h (show 0 ≤ 0 by omega) (show 0 ≤ 0 by omega) dX11_digest_135
