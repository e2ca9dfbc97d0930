def wpl_X11_isAlike_130 (μ46 : TMem) (f13 : Nat → Int32) (n12 : Nat) (f36 : Nat → Int32) (n35 : Nat) (Q : Int32 → TMem → Prop) : Nat → Int32 → Int32 → Prop
  | 0, _, _ => False
  | n + 1, v52, v53 =>
    (v53 = 0 → (isB v53 ∧ (Q v53 μ46))) ∧ (¬ v53 = 0 → (((nI n12) ≤ v52 → (isB v53 ∧ (Q v53 μ46))) ∧ (¬ (nI n12) ≤ v52 → (vp_in v52 n12 ∧ (vp_in v52 n35 ∧ ((¬ (f13 v52.toNatClampNeg) = (f36 v52.toNatClampNeg) → (wpl_X11_isAlike_130 μ46 f13 n12 f36 n35 Q n (v52 + (1 : Int32)) (0 : Int32))) ∧ ((f13 v52.toNatClampNeg) = (f36 v52.toNatClampNeg) → (wpl_X11_isAlike_130 μ46 f13 n12 f36 n35 Q n (v52 + (1 : Int32)) (1 : Int32)))))))))
def wp_X11_isAlike (μ : TMem) (a1 : Int32) (a2 : Int32) (a3 : Int32) (Q : Int32 → TMem → Prop) : Prop :=
  wp_X11_isOne a1 (fun (r1 : Int32) => ∀ J2 : Int32 → Prop, (∀ (j3 : Int32), (wp_X11_isIn a3 (0 : Int32) (1 : Int32) (fun (r4 : Int32) => wp_X11_isThrown μ j3 r4 (fun (r6 : Int32) (μ5 : TMem) => (r6 = 0 → ((¬ a3 = 0 → (wp_X11_found μ5 a1 (0 : Int32) (fun (r64 : Option AI) => (r64 = none → (wp_X11_found μ5 a2 (0 : Int32) (fun (r31 : Option AI) => (r31 = none → (wp_X11_isCrowded_n μ5 (3 : Int32) (fun (r20 : Int32) (μ19 : TMem) => (¬ r20 = 0 → (Q (0 : Int32) μ19)) ∧ (r20 = 0 → (wp_X11_isCrowded_n μ19 (3 : Int32) (fun (r23 : Int32) (μ22 : TMem) => (r23 = 0 → (False)) ∧ (¬ r23 = 0 → (Q (0 : Int32) μ22)))))))) ∧ (∀ (n17 : Nat) (f18 : Nat → Int32), r31 = some (n17, f18) → (wp_X11_isCrowded_n μ5 (3 : Int32) (fun (r26 : Int32) (μ25 : TMem) => (¬ r26 = 0 → (Q (0 : Int32) μ25)) ∧ (r26 = 0 → (wp_X11_isCrowded μ25 n17 f18 (3 : Int32) (fun (r29 : Int32) (μ28 : TMem) => (r29 = 0 → (False)) ∧ (¬ r29 = 0 → (Q (0 : Int32) μ28))))))))))) ∧ (∀ (n12 : Nat) (f13 : Nat → Int32), r64 = some (n12, f13) → (wp_X11_found μ5 a2 (0 : Int32) (fun (r63 : Option AI) => (r63 = none → (wp_X11_isCrowded μ5 n12 f13 (3 : Int32) (fun (r38 : Int32) (μ37 : TMem) => (¬ r38 = 0 → (Q (0 : Int32) μ37)) ∧ (r38 = 0 → (wp_X11_isCrowded_n μ37 (3 : Int32) (fun (r41 : Int32) (μ40 : TMem) => (r41 = 0 → (False)) ∧ (¬ r41 = 0 → (Q (0 : Int32) μ40)))))))) ∧ (∀ (n35 : Nat) (f36 : Nat → Int32), r63 = some (n35, f36) → (wp_X11_isCrowded μ5 n12 f13 (3 : Int32) (fun (r44 : Int32) (μ43 : TMem) => (¬ r44 = 0 → (Q (0 : Int32) μ43)) ∧ (r44 = 0 → (wp_X11_isCrowded μ43 n35 f36 (3 : Int32) (fun (r47 : Int32) (μ46 : TMem) => (r47 = 0 → (∀ J49 : Int32 → Prop, (∀ (j50 : Int32), (∃ n50x, wpl_X11_isAlike_130 μ46 f13 n12 f36 n35 Q n50x (0 : Int32) j50) → J49 j50) → ((¬ (nI n12) = (nI n35) → (J49 (0 : Int32))) ∧ ((nI n12) = (nI n35) → (J49 (1 : Int32)))))) ∧ (¬ r47 = 0 → (Q (0 : Int32) μ46)))))))))))))) ∧ (a3 = 0 → (wp_X11_pairsOf μ5 a1 a2 (fun (r80 : Option AI) => (r80 = none → (wp_X11_isCrowded_n μ5 (3 : Int32) (fun (r71 : Int32) (μ70 : TMem) => (¬ r71 = 0 → (Q (0 : Int32) μ70)) ∧ (r71 = 0 → (False))))) ∧ (∀ (n68 : Nat) (f69 : Nat → Int32), r80 = some (n68, f69) → (wp_X11_isCrowded μ5 n68 f69 (3 : Int32) (fun (r74 : Int32) (μ73 : TMem) => (¬ r74 = 0 → (Q (0 : Int32) μ73)) ∧ (r74 = 0 → (wp_X11_isApart μ73 a1 a2 n68 f69 (fun (r78 : Int32) => (¬ r78 = 0 → (Q (0 : Int32) μ73)) ∧ (r78 = 0 → (Q (1 : Int32) μ73))))))))))))) ∧ (¬ r6 = 0 → (Q (0 : Int32) μ5))))) → J2 j3) → ((r1 = 0 → (J2 (0 : Int32))) ∧ (¬ r1 = 0 → (wp_X11_isOne a2 (fun (r82 : Int32) => (r82 = 0 → (J2 (0 : Int32))) ∧ (¬ r82 = 0 → (J2 (1 : Int32))))))))
set_option maxHeartbeats 4000000 in
set_option maxRecDepth 100000 in
theorem c_X11_isAlike {l : Launch} {D : va_G} {ad : Nat → Nat} {cI cL : ClassId}  (μ : TMem) (sz : Nat) (a1 : Int32) (a2 : Int32) (a3 : Int32)  {Q : Int32 → TMem → Prop} (h : wp_X11_isAlike μ a1 a2 a3 Q) : MMi l yX11_isAlike (.code yX11_isAlike cX11_isAlike 8 (Option.some Jvm.ClassFile.FieldType.boolean)) 4 82 3370 [.ref (ad 0), .int a1, .int a2, .int a3] D ad cI cL sz μ [] Q := by
  refine M_meti (by decide +kernel) (Nat.le_of_ble_eq_true rfl) ?_
  intro p e s m below meth c Z ls hx hb hml hown ht hK hP0 hI hne hw hret hl
  have hl : lv_has ls 8 [(0, .ref (ad 0)), (1, .int a1), (2, .int a2), (3, .int a3)] := hl
  suffices hh : ∀ (H : Heap) (locs : List Loc), MW D (MR ad cI μ) [] (MA ad s.heap.size) s H locs → W p l e (RA 4 82 3370) s m #[.ref (ad 0), .int a1, .int a2, .int a3] below meth c H locs 0 0 Z (F0 m 0 ls []) from hh _ _ hw
  intro H locs hw
  change wp_X11_isOne a1 (fun (r1 : Int32) => ∀ J2 : Int32 → Prop, (∀ (j3 : Int32), (wp_X11_isIn a3 (0 : Int32) (1 : Int32) (fun (r4 : Int32) => wp_X11_isThrown μ j3 r4 (fun (r6 : Int32) (μ5 : TMem) => (r6 = 0 → ((¬ a3 = 0 → (wp_X11_found μ5 a1 (0 : Int32) (fun (r64 : Option AI) => (r64 = none → (wp_X11_found μ5 a2 (0 : Int32) (fun (r31 : Option AI) => (r31 = none → (wp_X11_isCrowded_n μ5 (3 : Int32) (fun (r20 : Int32) (μ19 : TMem) => (¬ r20 = 0 → (Q (0 : Int32) μ19)) ∧ (r20 = 0 → (wp_X11_isCrowded_n μ19 (3 : Int32) (fun (r23 : Int32) (μ22 : TMem) => (r23 = 0 → (False)) ∧ (¬ r23 = 0 → (Q (0 : Int32) μ22)))))))) ∧ (∀ (n17 : Nat) (f18 : Nat → Int32), r31 = some (n17, f18) → (wp_X11_isCrowded_n μ5 (3 : Int32) (fun (r26 : Int32) (μ25 : TMem) => (¬ r26 = 0 → (Q (0 : Int32) μ25)) ∧ (r26 = 0 → (wp_X11_isCrowded μ25 n17 f18 (3 : Int32) (fun (r29 : Int32) (μ28 : TMem) => (r29 = 0 → (False)) ∧ (¬ r29 = 0 → (Q (0 : Int32) μ28))))))))))) ∧ (∀ (n12 : Nat) (f13 : Nat → Int32), r64 = some (n12, f13) → (wp_X11_found μ5 a2 (0 : Int32) (fun (r63 : Option AI) => (r63 = none → (wp_X11_isCrowded μ5 n12 f13 (3 : Int32) (fun (r38 : Int32) (μ37 : TMem) => (¬ r38 = 0 → (Q (0 : Int32) μ37)) ∧ (r38 = 0 → (wp_X11_isCrowded_n μ37 (3 : Int32) (fun (r41 : Int32) (μ40 : TMem) => (r41 = 0 → (False)) ∧ (¬ r41 = 0 → (Q (0 : Int32) μ40)))))))) ∧ (∀ (n35 : Nat) (f36 : Nat → Int32), r63 = some (n35, f36) → (wp_X11_isCrowded μ5 n12 f13 (3 : Int32) (fun (r44 : Int32) (μ43 : TMem) => (¬ r44 = 0 → (Q (0 : Int32) μ43)) ∧ (r44 = 0 → (wp_X11_isCrowded μ43 n35 f36 (3 : Int32) (fun (r47 : Int32) (μ46 : TMem) => (r47 = 0 → (∀ J49 : Int32 → Prop, (∀ (j50 : Int32), (∃ n50x, wpl_X11_isAlike_130 μ46 f13 n12 f36 n35 Q n50x (0 : Int32) j50) → J49 j50) → ((¬ (nI n12) = (nI n35) → (J49 (0 : Int32))) ∧ ((nI n12) = (nI n35) → (J49 (1 : Int32)))))) ∧ (¬ r47 = 0 → (Q (0 : Int32) μ46)))))))))))))) ∧ (a3 = 0 → (wp_X11_pairsOf μ5 a1 a2 (fun (r80 : Option AI) => (r80 = none → (wp_X11_isCrowded_n μ5 (3 : Int32) (fun (r71 : Int32) (μ70 : TMem) => (¬ r71 = 0 → (Q (0 : Int32) μ70)) ∧ (r71 = 0 → (False))))) ∧ (∀ (n68 : Nat) (f69 : Nat → Int32), r80 = some (n68, f69) → (wp_X11_isCrowded μ5 n68 f69 (3 : Int32) (fun (r74 : Int32) (μ73 : TMem) => (¬ r74 = 0 → (Q (0 : Int32) μ73)) ∧ (r74 = 0 → (wp_X11_isApart μ73 a1 a2 n68 f69 (fun (r78 : Int32) => (¬ r78 = 0 → (Q (0 : Int32) μ73)) ∧ (r78 = 0 → (Q (1 : Int32) μ73))))))))))))) ∧ (¬ r6 = 0 → (Q (0 : Int32) μ5))))) → J2 j3) → ((r1 = 0 → (J2 (0 : Int32))) ∧ (¬ r1 = 0 → (wp_X11_isOne a2 (fun (r82 : Int32) => (r82 = 0 → (J2 (0 : Int32))) ∧ (¬ r82 = 0 → (J2 (1 : Int32)))))))) at h
  refine lv_aload_n hx hb dX11_isAlike_0 rfl (lv_at hl 0 rfl) ?_
  refine lv_iload_n hx hb dX11_isAlike_1 rfl (lv_at hl 1 rfl) ?_
  refine P_calli (va_runS (own := "LeastreaderModel") (As := [.int a1]) (rest := [.ref (ad 0)]) ⟨hx, hb, hml, hown, ht⟩ (c_X11_isOne a1 h) (va_cwS 1 ht (G_S q_1346 q_1347 q_56 q_1348) rfl rfl rfl hd_91 ⟨Nat.le_of_ble_eq_true rfl, Nat.le_of_ble_eq_true rfl⟩) ⟨PM_blind, PM_pre⟩ rfl rfl hl.1 rfl (lv_room (Nat.le_of_ble_eq_true rfl)) dX11_isAlike_2 ⟨show 0 + 0 ≤ 82 by omega, show 0 + 0 ≤ 3370 by omega⟩) (fun r1 h => ?_)
  have h := h (fun (j3 : Int32) => ∀ (H : Heap) (locs : List Loc) (ls : Array Slot), MW D (MR ad cI μ) [] (MA ad s.heap.size) s H locs → lv_has ls 8 [(0, .ref (ad 0)), (1, .int a1), (2, .int a2), (3, .int a3)] → W p l e (RA 4 82 3370) s m #[.ref (ad 0), .int a1, .int a2, .int a3] below meth c H locs 0 0 Z (F0 m 20 ls [.int j3, .ref (ad 0)])) (fun j3 h H locs ls hw hl => by
    refine lv_iload_n hx hb dX11_isAlike_20 rfl (lv_at hl 3 rfl) ?_
    refine lv_iconst (v := (0 : Int32)) hx hb dX11_isAlike_21 (by decide) ?_
    refine lv_iconst (v := (1 : Int32)) hx hb dX11_isAlike_22 (by decide) ?_
    refine P_calli (va_runS (own := "LeastreaderModel") (As := [.int a3, .int (0 : Int32), .int (1 : Int32)]) (rest := [.int j3, .ref (ad 0)]) ⟨hx, hb, hml, hown, ht⟩ (c_X11_isIn a3 (0 : Int32) (1 : Int32) h) (va_cwS 3 ht (G_S q_1349 q_1350 q_56 q_1351) rfl rfl rfl hd_78 ⟨Nat.le_of_ble_eq_true rfl, Nat.le_of_ble_eq_true rfl⟩) ⟨PM_blind, PM_pre⟩ rfl rfl hl.1 rfl (lv_room (Nat.le_of_ble_eq_true rfl)) dX11_isAlike_23 ⟨show 0 + 0 ≤ 82 by omega, show 0 + 0 ≤ 3370 by omega⟩) (fun r4 h => ?_)
    refine M_calli hw (MA.up hw.2.2.1.1) (va_runV (own := "LeastreaderModel") (As := [.int j3, .int r4]) (rest := []) ⟨hx, hb, hml, hown, ht⟩ (c_X11_isThrown μ H.size j3 r4 h) (cwV 2 ht (G_V q_1352 q_1354 q_26 q_56 q_1355) rfl rfl rfl ⟨rfl, hd_92⟩ ⟨Nat.le_of_ble_eq_true rfl, Nat.le_of_ble_eq_true rfl⟩) ⟨MB.blind, M_recv hK hw, MB.pre hK hI hw va_P0 ne0⟩ rfl rfl hl.1 rfl (lv_room (Nat.le_of_ble_eq_true rfl)) dX11_isAlike_26 ⟨show 0 + 0 ≤ 82 by omega, show 0 + 0 ≤ 3370 by omega⟩) (fun r6 μ5 H locs h hw => ?_)
    refine lv_if_eq (tgt := 34) hx hb dX11_isAlike_29 (by decide) (fun c7 => ?_) (fun c7 => ?_)
    · have h := h.1 c7
      refine lv_iload_n hx hb dX11_isAlike_34 rfl (lv_at hl 3 rfl) ?_
      refine lv_if_ne (tgt := 73) hx hb dX11_isAlike_35 (by decide) (fun c8 => ?_) (fun c8 => ?_)
      · have h := h.1 c8
        refine lv_aload_n hx hb dX11_isAlike_73 rfl (lv_at hl 0 rfl) ?_
        refine lv_iload_n hx hb dX11_isAlike_74 rfl (lv_at hl 1 rfl) ?_
        refine lv_iconst (v := (0 : Int32)) hx hb dX11_isAlike_75 (by decide) ?_
        refine M_callA hw (MA.up hw.2.2.1.1) (va_runV (own := "LeastreaderModel") (As := [.int a1, .int (0 : Int32)]) (rest := []) ⟨hx, hb, hml, hown, ht⟩ (c_X11_found μ5 H.size a1 (0 : Int32) h) (cwV 2 ht (G_V q_1452 q_1454 q_36 q_56 q_1455) rfl rfl rfl ⟨rfl, hd_103⟩ ⟨Nat.le_of_ble_eq_true rfl, Nat.le_of_ble_eq_true rfl⟩) ⟨MB.blind, M_recv hK hw, MB.pre hK hI hw va_P0 ne0⟩ rfl rfl hl.1 rfl (lv_room (Nat.le_of_ble_eq_true rfl)) dX11_isAlike_76 ⟨show 0 + 41 ≤ 82 by omega, show 0 + 1685 ≤ 3370 by omega⟩) (fun μ9 H locs h hw => ?_) (fun q11 n12 f13 μ9 H locs hq11 h hw => ?_)
        · skip
          obtain ⟨e10, h⟩ := h
          rw [e10] at hw
          have h := h.1 rfl
          refine lv_astoreN (lv' := [(4, .null), (0, .ref (ad 0)), (1, .int a1), (2, .int a2), (3, .int a3)]) hx hb dX11_isAlike_79 hl (by decide) rfl (fun ls hl => ?_)
          refine lv_aload_n hx hb dX11_isAlike_81 rfl (lv_at hl 1 rfl) ?_
          refine lv_iload_n hx hb dX11_isAlike_82 rfl (lv_at hl 3 rfl) ?_
          refine lv_iconst (v := (0 : Int32)) hx hb dX11_isAlike_83 (by decide) ?_
          refine M_callA hw (MA.up hw.2.2.1.1) (va_runV (own := "LeastreaderModel") (As := [.int a2, .int (0 : Int32)]) (rest := []) ⟨hx, hb, hml, hown, ht⟩ (c_X11_found μ5 H.size a2 (0 : Int32) h) (cwV 2 ht (G_V q_1452 q_1454 q_36 q_56 q_1455) rfl rfl rfl ⟨rfl, hd_103⟩ ⟨Nat.le_of_ble_eq_true rfl, Nat.le_of_ble_eq_true rfl⟩) ⟨MB.blind, M_recv hK hw, MB.pre hK hI hw va_P0 ne0⟩ rfl rfl hl.1 rfl (lv_room (Nat.le_of_ble_eq_true rfl)) dX11_isAlike_84 ⟨show 41 + 41 ≤ 82 by omega, show 1685 + 1685 ≤ 3370 by omega⟩) (fun μ14 H locs h hw => ?_) (fun q16 n17 f18 μ14 H locs hq16 h hw => ?_)
          · skip
            obtain ⟨e15, h⟩ := h
            rw [e15] at hw
            have h := h.1 rfl
            refine lv_astoreN (lv' := [(5, .null), (4, .null), (0, .ref (ad 0)), (1, .int a1), (2, .int a2), (3, .int a3)]) hx hb dX11_isAlike_87 hl (by decide) rfl (fun ls hl => ?_)
            refine lv_aload_n hx hb dX11_isAlike_89 rfl (lv_at hl 2 rfl) ?_
            refine lv_aloadN hx hb dX11_isAlike_90 (lv_at hl 1 rfl) ?_
            refine lv_iconst (v := (3 : Int32)) hx hb dX11_isAlike_92 (by decide) ?_
            refine M_calli hw (MA.up hw.2.2.1.1) (va_runV (own := "LeastreaderModel") (As := [.null, .int (3 : Int32)]) (rest := []) ⟨hx, hb, hml, hown, ht⟩ (c_X11_isCrowded_n μ5 H.size (3 : Int32) h) (cwV 2 ht (G_V q_1524 q_1526 q_42 q_56 q_1527) rfl rfl rfl ⟨rfl, hd_109⟩ ⟨Nat.le_of_ble_eq_true rfl, Nat.le_of_ble_eq_true rfl⟩) ⟨MB.blind, M_recv hK hw, MB.pre hK hI hw va_P0 ne0⟩ rfl rfl hl.1 rfl (lv_room (Nat.le_of_ble_eq_true rfl)) dX11_isAlike_93 ⟨show 82 + 0 ≤ 82 by omega, show 3370 + 0 ≤ 3370 by omega⟩) (fun r20 μ19 H locs h hw => ?_)
            refine lv_if_ne (tgt := 109) hx hb dX11_isAlike_96 (by decide) (fun c21 => ?_) (fun c21 => ?_)
            · have h := h.1 c21
              refine lv_iconst (v := (0 : Int32)) hx hb dX11_isAlike_109 (by decide) ?_
              exact hret H locs ls 110 _ _ _ _ _ hw h rfl (show 82 ≤ 82 by omega) (show 3370 ≤ 3370 by omega) dX11_isAlike_110
            have h := h.2 c21
            refine lv_aload_n hx hb dX11_isAlike_99 rfl (lv_at hl 2 rfl) ?_
            refine lv_aloadN hx hb dX11_isAlike_100 (lv_at hl 0 rfl) ?_
            refine lv_iconst (v := (3 : Int32)) hx hb dX11_isAlike_102 (by decide) ?_
            refine M_calli hw (MA.up hw.2.2.1.1) (va_runV (own := "LeastreaderModel") (As := [.null, .int (3 : Int32)]) (rest := []) ⟨hx, hb, hml, hown, ht⟩ (c_X11_isCrowded_n μ19 H.size (3 : Int32) h) (cwV 2 ht (G_V q_1524 q_1526 q_42 q_56 q_1527) rfl rfl rfl ⟨rfl, hd_109⟩ ⟨Nat.le_of_ble_eq_true rfl, Nat.le_of_ble_eq_true rfl⟩) ⟨MB.blind, M_recv hK hw, MB.pre hK hI hw va_P0 ne0⟩ rfl rfl hl.1 rfl (lv_room (Nat.le_of_ble_eq_true rfl)) dX11_isAlike_103 ⟨show 82 + 0 ≤ 82 by omega, show 3370 + 0 ≤ 3370 by omega⟩) (fun r23 μ22 H locs h hw => ?_)
            refine lv_if_eq (tgt := 111) hx hb dX11_isAlike_106 (by decide) (fun c24 => ?_) (fun c24 => ?_)
            · have h := h.1 c24
              refine lv_aloadN hx hb dX11_isAlike_111 (lv_at hl 1 rfl) ?_
              exact False.elim h
            have h := h.2 c24
            refine lv_iconst (v := (0 : Int32)) hx hb dX11_isAlike_109 (by decide) ?_
            exact hret H locs ls 110 _ _ _ _ _ hw h rfl (show 82 ≤ 82 by omega) (show 3370 ≤ 3370 by omega) dX11_isAlike_110
          obtain ⟨e15, h⟩ := h
          rw [e15] at hw
          have h := h.2 _ _ rfl
          have hw : MW D (MR ad cI μ5) [eI cI q16 n17 f18] (MA ad s.heap.size) s H locs := hw
          refine lv_astore (lv' := [(5, .ref q16), (4, .null), (0, .ref (ad 0)), (1, .int a1), (2, .int a2), (3, .int a3)]) hx hb dX11_isAlike_87 hl (by decide) rfl (fun ls hl => ?_)
          refine lv_aload_n hx hb dX11_isAlike_89 rfl (lv_at hl 2 rfl) ?_
          refine lv_aloadN hx hb dX11_isAlike_90 (lv_at hl 1 rfl) ?_
          refine lv_iconst (v := (3 : Int32)) hx hb dX11_isAlike_92 (by decide) ?_
          refine M_calli hw (MA.up hw.2.2.1.1) (va_runV (own := "LeastreaderModel") (As := [.null, .int (3 : Int32)]) (rest := []) ⟨hx, hb, hml, hown, ht⟩ (c_X11_isCrowded_n μ5 H.size (3 : Int32) h) (cwV 2 ht (G_V q_1524 q_1526 q_42 q_56 q_1527) rfl rfl rfl ⟨rfl, hd_109⟩ ⟨Nat.le_of_ble_eq_true rfl, Nat.le_of_ble_eq_true rfl⟩) ⟨MB.blind, M_recv hK hw, MB.pre hK hI hw va_P0 ne0⟩ rfl rfl hl.1 rfl (lv_room (Nat.le_of_ble_eq_true rfl)) dX11_isAlike_93 ⟨show 82 + 0 ≤ 82 by omega, show 3370 + 0 ≤ 3370 by omega⟩) (fun r26 μ25 H locs h hw => ?_)
          refine lv_if_ne (tgt := 109) hx hb dX11_isAlike_96 (by decide) (fun c27 => ?_) (fun c27 => ?_)
          · have h := h.1 c27
            refine lv_iconst (v := (0 : Int32)) hx hb dX11_isAlike_109 (by decide) ?_
            exact hret H locs ls 110 _ _ _ _ _ hw h rfl (show 82 ≤ 82 by omega) (show 3370 ≤ 3370 by omega) dX11_isAlike_110
          have h := h.2 c27
          refine lv_aload_n hx hb dX11_isAlike_99 rfl (lv_at hl 2 rfl) ?_
          refine lv_aload hx hb dX11_isAlike_100 (lv_at hl 0 rfl) ?_
          refine lv_iconst (v := (3 : Int32)) hx hb dX11_isAlike_102 (by decide) ?_
          refine M_calli hw (MA.up hw.2.2.1.1) (va_runV (own := "LeastreaderModel") (As := [.ref q16, .int (3 : Int32)]) (rest := []) ⟨hx, hb, hml, hown, ht⟩ (c_X11_isCrowded q16 μ25 H.size n17 f18 (3 : Int32) h) (cwV 2 ht (G_V q_1524 q_1526 q_42 q_56 q_1527) rfl rfl rfl ⟨rfl, hd_109⟩ ⟨Nat.le_of_ble_eq_true rfl, Nat.le_of_ble_eq_true rfl⟩) ⟨MB.blind, M_recv hK hw, MB.pre hK hI hw (va_Pc2 (hw.n (j := 0) rfl) va_P0) (neC (hw.ne (j := 0) rfl) ne0)⟩ rfl rfl hl.1 rfl (lv_room (Nat.le_of_ble_eq_true rfl)) dX11_isAlike_103 ⟨show 82 + 0 ≤ 82 by omega, show 3370 + 0 ≤ 3370 by omega⟩) (fun r29 μ28 H locs h hw => ?_)
          refine lv_if_eq (tgt := 111) hx hb dX11_isAlike_106 (by decide) (fun c30 => ?_) (fun c30 => ?_)
          · have h := h.1 c30
            refine lv_aloadN hx hb dX11_isAlike_111 (lv_at hl 1 rfl) ?_
            exact False.elim h
          have h := h.2 c30
          refine lv_iconst (v := (0 : Int32)) hx hb dX11_isAlike_109 (by decide) ?_
          exact hret H locs ls 110 _ _ _ _ _ hw h rfl (show 82 ≤ 82 by omega) (show 3370 ≤ 3370 by omega) dX11_isAlike_110
        obtain ⟨e10, h⟩ := h
        rw [e10] at hw
        have h := h.2 _ _ rfl
        have hw : MW D (MR ad cI μ5) [eI cI q11 n12 f13] (MA ad s.heap.size) s H locs := hw
        refine lv_astore (lv' := [(4, .ref q11), (0, .ref (ad 0)), (1, .int a1), (2, .int a2), (3, .int a3)]) hx hb dX11_isAlike_79 hl (by decide) rfl (fun ls hl => ?_)
        refine lv_aload_n hx hb dX11_isAlike_81 rfl (lv_at hl 1 rfl) ?_
        refine lv_iload_n hx hb dX11_isAlike_82 rfl (lv_at hl 3 rfl) ?_
        refine lv_iconst (v := (0 : Int32)) hx hb dX11_isAlike_83 (by decide) ?_
        refine M_callA hw (MA.up hw.2.2.1.1) (va_runV (own := "LeastreaderModel") (As := [.int a2, .int (0 : Int32)]) (rest := []) ⟨hx, hb, hml, hown, ht⟩ (c_X11_found μ5 H.size a2 (0 : Int32) h) (cwV 2 ht (G_V q_1452 q_1454 q_36 q_56 q_1455) rfl rfl rfl ⟨rfl, hd_103⟩ ⟨Nat.le_of_ble_eq_true rfl, Nat.le_of_ble_eq_true rfl⟩) ⟨MB.blind, M_recv hK hw, MB.pre hK hI hw va_P0 ne0⟩ rfl rfl hl.1 rfl (lv_room (Nat.le_of_ble_eq_true rfl)) dX11_isAlike_84 ⟨show 41 + 41 ≤ 82 by omega, show 1685 + 1685 ≤ 3370 by omega⟩) (fun μ32 H locs h hw => ?_) (fun q34 n35 f36 μ32 H locs hq34 h hw => ?_)
        · skip
          obtain ⟨e33, h⟩ := h
          rw [e33] at hw
          have h := h.1 rfl
          refine lv_astoreN (lv' := [(5, .null), (4, .ref q11), (0, .ref (ad 0)), (1, .int a1), (2, .int a2), (3, .int a3)]) hx hb dX11_isAlike_87 hl (by decide) rfl (fun ls hl => ?_)
          refine lv_aload_n hx hb dX11_isAlike_89 rfl (lv_at hl 2 rfl) ?_
          refine lv_aload hx hb dX11_isAlike_90 (lv_at hl 1 rfl) ?_
          refine lv_iconst (v := (3 : Int32)) hx hb dX11_isAlike_92 (by decide) ?_
          refine M_calli hw (MA.up hw.2.2.1.1) (va_runV (own := "LeastreaderModel") (As := [.ref q11, .int (3 : Int32)]) (rest := []) ⟨hx, hb, hml, hown, ht⟩ (c_X11_isCrowded q11 μ5 H.size n12 f13 (3 : Int32) h) (cwV 2 ht (G_V q_1524 q_1526 q_42 q_56 q_1527) rfl rfl rfl ⟨rfl, hd_109⟩ ⟨Nat.le_of_ble_eq_true rfl, Nat.le_of_ble_eq_true rfl⟩) ⟨MB.blind, M_recv hK hw, MB.pre hK hI hw (va_Pc2 (hw.n (j := 0) rfl) va_P0) (neC (hw.ne (j := 0) rfl) ne0)⟩ rfl rfl hl.1 rfl (lv_room (Nat.le_of_ble_eq_true rfl)) dX11_isAlike_93 ⟨show 82 + 0 ≤ 82 by omega, show 3370 + 0 ≤ 3370 by omega⟩) (fun r38 μ37 H locs h hw => ?_)
          refine lv_if_ne (tgt := 109) hx hb dX11_isAlike_96 (by decide) (fun c39 => ?_) (fun c39 => ?_)
          · have h := h.1 c39
            refine lv_iconst (v := (0 : Int32)) hx hb dX11_isAlike_109 (by decide) ?_
            exact hret H locs ls 110 _ _ _ _ _ hw h rfl (show 82 ≤ 82 by omega) (show 3370 ≤ 3370 by omega) dX11_isAlike_110
          have h := h.2 c39
          refine lv_aload_n hx hb dX11_isAlike_99 rfl (lv_at hl 2 rfl) ?_
          refine lv_aloadN hx hb dX11_isAlike_100 (lv_at hl 0 rfl) ?_
          refine lv_iconst (v := (3 : Int32)) hx hb dX11_isAlike_102 (by decide) ?_
          refine M_calli hw (MA.up hw.2.2.1.1) (va_runV (own := "LeastreaderModel") (As := [.null, .int (3 : Int32)]) (rest := []) ⟨hx, hb, hml, hown, ht⟩ (c_X11_isCrowded_n μ37 H.size (3 : Int32) h) (cwV 2 ht (G_V q_1524 q_1526 q_42 q_56 q_1527) rfl rfl rfl ⟨rfl, hd_109⟩ ⟨Nat.le_of_ble_eq_true rfl, Nat.le_of_ble_eq_true rfl⟩) ⟨MB.blind, M_recv hK hw, MB.pre hK hI hw va_P0 ne0⟩ rfl rfl hl.1 rfl (lv_room (Nat.le_of_ble_eq_true rfl)) dX11_isAlike_103 ⟨show 82 + 0 ≤ 82 by omega, show 3370 + 0 ≤ 3370 by omega⟩) (fun r41 μ40 H locs h hw => ?_)
          refine lv_if_eq (tgt := 111) hx hb dX11_isAlike_106 (by decide) (fun c42 => ?_) (fun c42 => ?_)
          · have h := h.1 c42
            refine lv_aload hx hb dX11_isAlike_111 (lv_at hl 1 rfl) ?_
            refine n_alenI hx hb hK (hw.n (j := 0) rfl) dX11_isAlike_113 ?_
            refine lv_aloadN hx hb dX11_isAlike_114 (lv_at hl 0 rfl) ?_
            exact False.elim h
          have h := h.2 c42
          refine lv_iconst (v := (0 : Int32)) hx hb dX11_isAlike_109 (by decide) ?_
          exact hret H locs ls 110 _ _ _ _ _ hw h rfl (show 82 ≤ 82 by omega) (show 3370 ≤ 3370 by omega) dX11_isAlike_110
        obtain ⟨e33, h⟩ := h
        rw [e33] at hw
        have h := h.2 _ _ rfl
        have hw : MW D (MR ad cI μ5) [eI cI q11 n12 f13, eI cI q34 n35 f36] (MA ad s.heap.size) s H locs := hw
        refine lv_astore (lv' := [(5, .ref q34), (4, .ref q11), (0, .ref (ad 0)), (1, .int a1), (2, .int a2), (3, .int a3)]) hx hb dX11_isAlike_87 hl (by decide) rfl (fun ls hl => ?_)
        refine lv_aload_n hx hb dX11_isAlike_89 rfl (lv_at hl 2 rfl) ?_
        refine lv_aload hx hb dX11_isAlike_90 (lv_at hl 1 rfl) ?_
        refine lv_iconst (v := (3 : Int32)) hx hb dX11_isAlike_92 (by decide) ?_
        refine M_calli hw (MA.up hw.2.2.1.1) (va_runV (own := "LeastreaderModel") (As := [.ref q11, .int (3 : Int32)]) (rest := []) ⟨hx, hb, hml, hown, ht⟩ (c_X11_isCrowded q11 μ5 H.size n12 f13 (3 : Int32) h) (cwV 2 ht (G_V q_1524 q_1526 q_42 q_56 q_1527) rfl rfl rfl ⟨rfl, hd_109⟩ ⟨Nat.le_of_ble_eq_true rfl, Nat.le_of_ble_eq_true rfl⟩) ⟨MB.blind, M_recv hK hw, MB.pre hK hI hw (va_Pc2 (hw.n (j := 0) rfl) va_P0) (neC (hw.ne (j := 0) rfl) ne0)⟩ rfl rfl hl.1 rfl (lv_room (Nat.le_of_ble_eq_true rfl)) dX11_isAlike_93 ⟨show 82 + 0 ≤ 82 by omega, show 3370 + 0 ≤ 3370 by omega⟩) (fun r44 μ43 H locs h hw => ?_)
        refine lv_if_ne (tgt := 109) hx hb dX11_isAlike_96 (by decide) (fun c45 => ?_) (fun c45 => ?_)
        · have h := h.1 c45
          refine lv_iconst (v := (0 : Int32)) hx hb dX11_isAlike_109 (by decide) ?_
          exact hret H locs ls 110 _ _ _ _ _ hw h rfl (show 82 ≤ 82 by omega) (show 3370 ≤ 3370 by omega) dX11_isAlike_110
        have h := h.2 c45
        refine lv_aload_n hx hb dX11_isAlike_99 rfl (lv_at hl 2 rfl) ?_
        refine lv_aload hx hb dX11_isAlike_100 (lv_at hl 0 rfl) ?_
        refine lv_iconst (v := (3 : Int32)) hx hb dX11_isAlike_102 (by decide) ?_
        refine M_calli hw (MA.up hw.2.2.1.1) (va_runV (own := "LeastreaderModel") (As := [.ref q34, .int (3 : Int32)]) (rest := []) ⟨hx, hb, hml, hown, ht⟩ (c_X11_isCrowded q34 μ43 H.size n35 f36 (3 : Int32) h) (cwV 2 ht (G_V q_1524 q_1526 q_42 q_56 q_1527) rfl rfl rfl ⟨rfl, hd_109⟩ ⟨Nat.le_of_ble_eq_true rfl, Nat.le_of_ble_eq_true rfl⟩) ⟨MB.blind, M_recv hK hw, MB.pre hK hI hw (va_Pc2 (hw.n (j := 1) rfl) va_P0) (neC (hw.ne (j := 1) rfl) ne0)⟩ rfl rfl hl.1 rfl (lv_room (Nat.le_of_ble_eq_true rfl)) dX11_isAlike_103 ⟨show 82 + 0 ≤ 82 by omega, show 3370 + 0 ≤ 3370 by omega⟩) (fun r47 μ46 H locs h hw => ?_)
        refine lv_if_eq (tgt := 111) hx hb dX11_isAlike_106 (by decide) (fun c48 => ?_) (fun c48 => ?_)
        · have h := h.1 c48
          refine lv_aload hx hb dX11_isAlike_111 (lv_at hl 1 rfl) ?_
          refine n_alenI hx hb hK (hw.n (j := 0) rfl) dX11_isAlike_113 ?_
          refine lv_aload hx hb dX11_isAlike_114 (lv_at hl 0 rfl) ?_
          refine n_alenI hx hb hK (hw.n (j := 1) rfl) dX11_isAlike_116 ?_
          have h := h (fun (j50 : Int32) => ∀ (H : Heap) (locs : List Loc) (ls : Array Slot), MW D (MR ad cI μ46) [eI cI q11 n12 f13, eI cI q34 n35 f36] (MA ad s.heap.size) s H locs → lv_has ls 8 [(5, .ref q34), (4, .ref q11)] → W p l e (RA 4 82 3370) s m #[.ref (ad 0), .int a1, .int a2, .int a3] below meth c H locs 82 3370 Z (F0 m 125 ls [.int j50])) (fun j50 h H locs ls hw hl => by
            refine lv_istore (lv' := [(6, .int j50), (5, .ref q34), (4, .ref q11)]) hx hb dX11_isAlike_125 hl (by decide) rfl (fun ls hl => ?_)
            refine lv_iconst (v := (0 : Int32)) hx hb dX11_isAlike_127 (by decide) ?_
            refine lv_istore (lv' := [(7, .int (0 : Int32)), (6, .int j50), (5, .ref q34), (4, .ref q11)]) hx hb dX11_isAlike_128 hl (by decide) rfl (fun ls hl => ?_)
            obtain ⟨n61, h⟩ := h
            have L50 : ∀ (n : Nat), ∀ (v52 : Int32) (v53 : Int32), ∀ (H : Heap) (locs : List Loc) (ls : Array Slot), MW D (MR ad cI μ46) [eI cI q11 n12 f13, eI cI q34 n35 f36] (MA ad s.heap.size) s H locs → lv_has ls 8 [(7, .int v52), (6, .int v53), (5, .ref q34), (4, .ref q11)] → wpl_X11_isAlike_130 μ46 f13 n12 f36 n35 Q n v52 v53 → W p l e (RA 4 82 3370) s m #[.ref (ad 0), .int a1, .int a2, .int a3] below meth c H locs 82 3370 Z (F0 m 130 ls []) := by
              intro n
              induction n with
              | zero => intro v52 v53 H locs ls hw hl h; exact False.elim h
              | succ n ih50 =>
                intro v52 v53 H locs ls hw hl h
                change (v53 = 0 → (isB v53 ∧ (Q v53 μ46))) ∧ (¬ v53 = 0 → (((nI n12) ≤ v52 → (isB v53 ∧ (Q v53 μ46))) ∧ (¬ (nI n12) ≤ v52 → (vp_in v52 n12 ∧ (vp_in v52 n35 ∧ ((¬ (f13 v52.toNatClampNeg) = (f36 v52.toNatClampNeg) → (wpl_X11_isAlike_130 μ46 f13 n12 f36 n35 Q n (v52 + (1 : Int32)) (0 : Int32))) ∧ ((f13 v52.toNatClampNeg) = (f36 v52.toNatClampNeg) → (wpl_X11_isAlike_130 μ46 f13 n12 f36 n35 Q n (v52 + (1 : Int32)) (1 : Int32))))))))) at h
                refine lv_iload hx hb dX11_isAlike_130 (lv_at hl 1 rfl) ?_
                refine lv_if_eq (tgt := 169) hx hb dX11_isAlike_132 (by decide) (fun c54 => ?_) (fun c54 => ?_)
                · have h := h.1 c54
                  refine lv_iload hx hb dX11_isAlike_169 (lv_at hl 1 rfl) ?_
                  obtain ⟨z55, h⟩ := h
                  exact hret H locs ls 171 _ _ _ _ _ hw h (isB_n z55) (show 82 ≤ 82 by omega) (show 3370 ≤ 3370 by omega) dX11_isAlike_171
                have h := h.2 c54
                refine lv_iload hx hb dX11_isAlike_135 (lv_at hl 0 rfl) ?_
                refine lv_aload hx hb dX11_isAlike_137 (lv_at hl 3 rfl) ?_
                refine n_alenI hx hb hK (hw.n (j := 0) rfl) dX11_isAlike_139 ?_
                refine lv_icmp_ge (tgt := 169) hx hb dX11_isAlike_140 (by decide) (fun c56 => ?_) (fun c56 => ?_)
                · have h := h.1 c56
                  refine lv_iload hx hb dX11_isAlike_169 (lv_at hl 1 rfl) ?_
                  obtain ⟨z57, h⟩ := h
                  exact hret H locs ls 171 _ _ _ _ _ hw h (isB_n z57) (show 82 ≤ 82 by omega) (show 3370 ≤ 3370 by omega) dX11_isAlike_171
                have h := h.2 c56
                refine lv_aload hx hb dX11_isAlike_143 (lv_at hl 3 rfl) ?_
                refine lv_iload hx hb dX11_isAlike_145 (lv_at hl 0 rfl) ?_
                obtain ⟨z58, h⟩ := h
                refine n_iald hx hb hK (hw.n (j := 0) rfl) z58 dX11_isAlike_147 ?_
                refine lv_aload hx hb dX11_isAlike_148 (lv_at hl 2 rfl) ?_
                refine lv_iload hx hb dX11_isAlike_150 (lv_at hl 0 rfl) ?_
                obtain ⟨z59, h⟩ := h
                refine n_iald hx hb hK (hw.n (j := 1) rfl) z59 dX11_isAlike_152 ?_
                refine lv_icmp_ne (tgt := 160) hx hb dX11_isAlike_153 (by decide) (fun c60 => ?_) (fun c60 => ?_)
                · have h := h.1 c60
                  refine lv_iconst (v := (0 : Int32)) hx hb dX11_isAlike_160 (by decide) ?_
                  refine lv_istore (lv' := [(6, .int (0 : Int32)), (7, .int v52), (5, .ref q34), (4, .ref q11)]) hx hb dX11_isAlike_161 hl (by decide) rfl (fun ls hl => ?_)
                  refine lv_iinc (v := (v52 + (1 : Int32))) (lv' := [(7, .int (v52 + (1 : Int32))), (6, .int (0 : Int32)), (5, .ref q34), (4, .ref q11)]) hx hb dX11_isAlike_163 hl (k := 1) rfl rfl (by decide) rfl (fun ls hl => ?_)
                  refine lv_goto (tgt := 130) hx hb dX11_isAlike_166 (by decide) ?_
                  exact ih50 (v52 + (1 : Int32)) (0 : Int32) H locs ls hw (lv_sub hl [0, 1, 2, 3] rfl) h
                have h := h.2 c60
                refine lv_iconst (v := (1 : Int32)) hx hb dX11_isAlike_156 (by decide) ?_
                refine lv_goto (tgt := 161) hx hb dX11_isAlike_157 (by decide) ?_
                refine lv_istore (lv' := [(6, .int (1 : Int32)), (7, .int v52), (5, .ref q34), (4, .ref q11)]) hx hb dX11_isAlike_161 hl (by decide) rfl (fun ls hl => ?_)
                refine lv_iinc (v := (v52 + (1 : Int32))) (lv' := [(7, .int (v52 + (1 : Int32))), (6, .int (1 : Int32)), (5, .ref q34), (4, .ref q11)]) hx hb dX11_isAlike_163 hl (k := 1) rfl rfl (by decide) rfl (fun ls hl => ?_)
                refine lv_goto (tgt := 130) hx hb dX11_isAlike_166 (by decide) ?_
                exact ih50 (v52 + (1 : Int32)) (1 : Int32) H locs ls hw (lv_sub hl [0, 1, 2, 3] rfl) h
            exact L50 n61 (0 : Int32) j50 H locs ls hw (lv_sub hl [0, 1, 2, 3] rfl) h)
          refine lv_icmp_ne (tgt := 124) hx hb dX11_isAlike_117 (by decide) (fun c62 => ?_) (fun c62 => ?_)
          · have h := h.1 c62
            refine lv_iconst (v := (0 : Int32)) hx hb dX11_isAlike_124 (by decide) ?_
            exact h H locs ls hw (lv_sub hl [0, 1] rfl)
          have h := h.2 c62
          refine lv_iconst (v := (1 : Int32)) hx hb dX11_isAlike_120 (by decide) ?_
          refine lv_goto (tgt := 125) hx hb dX11_isAlike_121 (by decide) ?_
          exact h H locs ls hw (lv_sub hl [0, 1] rfl)
        have h := h.2 c48
        refine lv_iconst (v := (0 : Int32)) hx hb dX11_isAlike_109 (by decide) ?_
        exact hret H locs ls 110 _ _ _ _ _ hw h rfl (show 82 ≤ 82 by omega) (show 3370 ≤ 3370 by omega) dX11_isAlike_110
      have h := h.2 c8
      refine lv_aload_n hx hb dX11_isAlike_38 rfl (lv_at hl 0 rfl) ?_
      refine lv_iload_n hx hb dX11_isAlike_39 rfl (lv_at hl 1 rfl) ?_
      refine lv_iload_n hx hb dX11_isAlike_40 rfl (lv_at hl 2 rfl) ?_
      refine M_callA hw (MA.up hw.2.2.1.1) (va_runV (own := "LeastreaderModel") (As := [.int a1, .int a2]) (rest := []) ⟨hx, hb, hml, hown, ht⟩ (c_X11_pairsOf μ5 H.size a1 a2 h) (cwV 2 ht (G_V q_1567 q_1569 q_43 q_56 q_1570) rfl rfl rfl ⟨rfl, hd_112⟩ ⟨Nat.le_of_ble_eq_true rfl, Nat.le_of_ble_eq_true rfl⟩) ⟨MB.blind, M_recv hK hw, MB.pre hK hI hw va_P0 ne0⟩ rfl rfl hl.1 rfl (lv_room (Nat.le_of_ble_eq_true rfl)) dX11_isAlike_41 ⟨show 0 + 9 ≤ 82 by omega, show 0 + 1222 ≤ 3370 by omega⟩) (fun μ65 H locs h hw => ?_) (fun q67 n68 f69 μ65 H locs hq67 h hw => ?_)
      · skip
        obtain ⟨e66, h⟩ := h
        rw [e66] at hw
        have h := h.1 rfl
        refine lv_astoreN (lv' := [(4, .null), (0, .ref (ad 0)), (1, .int a1), (2, .int a2), (3, .int a3)]) hx hb dX11_isAlike_44 hl (by decide) rfl (fun ls hl => ?_)
        refine lv_aload_n hx hb dX11_isAlike_46 rfl (lv_at hl 1 rfl) ?_
        refine lv_aloadN hx hb dX11_isAlike_47 (lv_at hl 0 rfl) ?_
        refine lv_iconst (v := (3 : Int32)) hx hb dX11_isAlike_49 (by decide) ?_
        refine M_calli hw (MA.up hw.2.2.1.1) (va_runV (own := "LeastreaderModel") (As := [.null, .int (3 : Int32)]) (rest := []) ⟨hx, hb, hml, hown, ht⟩ (c_X11_isCrowded_n μ5 H.size (3 : Int32) h) (cwV 2 ht (G_V q_1524 q_1526 q_42 q_56 q_1527) rfl rfl rfl ⟨rfl, hd_109⟩ ⟨Nat.le_of_ble_eq_true rfl, Nat.le_of_ble_eq_true rfl⟩) ⟨MB.blind, M_recv hK hw, MB.pre hK hI hw va_P0 ne0⟩ rfl rfl hl.1 rfl (lv_room (Nat.le_of_ble_eq_true rfl)) dX11_isAlike_50 ⟨show 9 + 0 ≤ 82 by omega, show 1222 + 0 ≤ 3370 by omega⟩) (fun r71 μ70 H locs h hw => ?_)
        refine lv_if_ne (tgt := 71) hx hb dX11_isAlike_53 (by decide) (fun c72 => ?_) (fun c72 => ?_)
        · have h := h.1 c72
          refine lv_iconst (v := (0 : Int32)) hx hb dX11_isAlike_71 (by decide) ?_
          exact hret H locs ls 72 _ _ _ _ _ hw h rfl (show 9 ≤ 82 by omega) (show 1222 ≤ 3370 by omega) dX11_isAlike_72
        have h := h.2 c72
        refine lv_aload_n hx hb dX11_isAlike_56 rfl (lv_at hl 1 rfl) ?_
        refine lv_iload_n hx hb dX11_isAlike_57 rfl (lv_at hl 2 rfl) ?_
        refine lv_iload_n hx hb dX11_isAlike_58 rfl (lv_at hl 3 rfl) ?_
        refine lv_aloadN hx hb dX11_isAlike_59 (lv_at hl 0 rfl) ?_
        exact False.elim h
      obtain ⟨e66, h⟩ := h
      rw [e66] at hw
      have h := h.2 _ _ rfl
      have hw : MW D (MR ad cI μ5) [eI cI q67 n68 f69] (MA ad s.heap.size) s H locs := hw
      refine lv_astore (lv' := [(4, .ref q67), (0, .ref (ad 0)), (1, .int a1), (2, .int a2), (3, .int a3)]) hx hb dX11_isAlike_44 hl (by decide) rfl (fun ls hl => ?_)
      refine lv_aload_n hx hb dX11_isAlike_46 rfl (lv_at hl 1 rfl) ?_
      refine lv_aload hx hb dX11_isAlike_47 (lv_at hl 0 rfl) ?_
      refine lv_iconst (v := (3 : Int32)) hx hb dX11_isAlike_49 (by decide) ?_
      refine M_calli hw (MA.up hw.2.2.1.1) (va_runV (own := "LeastreaderModel") (As := [.ref q67, .int (3 : Int32)]) (rest := []) ⟨hx, hb, hml, hown, ht⟩ (c_X11_isCrowded q67 μ5 H.size n68 f69 (3 : Int32) h) (cwV 2 ht (G_V q_1524 q_1526 q_42 q_56 q_1527) rfl rfl rfl ⟨rfl, hd_109⟩ ⟨Nat.le_of_ble_eq_true rfl, Nat.le_of_ble_eq_true rfl⟩) ⟨MB.blind, M_recv hK hw, MB.pre hK hI hw (va_Pc2 (hw.n (j := 0) rfl) va_P0) (neC (hw.ne (j := 0) rfl) ne0)⟩ rfl rfl hl.1 rfl (lv_room (Nat.le_of_ble_eq_true rfl)) dX11_isAlike_50 ⟨show 9 + 0 ≤ 82 by omega, show 1222 + 0 ≤ 3370 by omega⟩) (fun r74 μ73 H locs h hw => ?_)
      refine lv_if_ne (tgt := 71) hx hb dX11_isAlike_53 (by decide) (fun c75 => ?_) (fun c75 => ?_)
      · have h := h.1 c75
        refine lv_iconst (v := (0 : Int32)) hx hb dX11_isAlike_71 (by decide) ?_
        exact hret H locs ls 72 _ _ _ _ _ hw h rfl (show 9 ≤ 82 by omega) (show 1222 ≤ 3370 by omega) dX11_isAlike_72
      have h := h.2 c75
      refine lv_aload_n hx hb dX11_isAlike_56 rfl (lv_at hl 1 rfl) ?_
      refine lv_iload_n hx hb dX11_isAlike_57 rfl (lv_at hl 2 rfl) ?_
      refine lv_iload_n hx hb dX11_isAlike_58 rfl (lv_at hl 3 rfl) ?_
      refine lv_aload hx hb dX11_isAlike_59 (lv_at hl 0 rfl) ?_
      refine M_calli hw (MA.up hw.2.2.1.1) (va_runV (own := "LeastreaderModel") (As := [.int a1, .int a2, .ref q67]) (rest := []) ⟨hx, hb, hml, hown, ht⟩ (c_X11_isApart q67 μ73 H.size a1 a2 n68 f69 h) (cwV 3 ht (G_V q_1571 q_1573 q_44 q_56 q_1574) rfl rfl rfl ⟨rfl, hd_113⟩ ⟨Nat.le_of_ble_eq_true rfl, Nat.le_of_ble_eq_true rfl⟩) ⟨MB.blind, M_recv hK hw, MB.pre hK hI hw (va_Pc2 (hw.n (j := 0) rfl) va_P0) (neC (hw.ne (j := 0) rfl) ne0)⟩ rfl rfl hl.1 rfl (lv_room (Nat.le_of_ble_eq_true rfl)) dX11_isAlike_61 ⟨show 9 + 8 ≤ 82 by omega, show 1222 + 618 ≤ 3370 by omega⟩) (fun r78 μ76 H locs h hw => ?_)
      obtain ⟨e77, h⟩ := h
      rw [e77] at hw
      refine lv_if_ne (tgt := 71) hx hb dX11_isAlike_64 (by decide) (fun c79 => ?_) (fun c79 => ?_)
      · have h := h.1 c79
        refine lv_iconst (v := (0 : Int32)) hx hb dX11_isAlike_71 (by decide) ?_
        exact hret H locs ls 72 _ _ _ _ _ hw h rfl (show 17 ≤ 82 by omega) (show 1840 ≤ 3370 by omega) dX11_isAlike_72
      have h := h.2 c79
      refine lv_iconst (v := (1 : Int32)) hx hb dX11_isAlike_67 (by decide) ?_
      refine lv_goto (tgt := 72) hx hb dX11_isAlike_68 (by decide) ?_
      exact hret H locs ls 72 _ _ _ _ _ hw h rfl (show 17 ≤ 82 by omega) (show 1840 ≤ 3370 by omega) dX11_isAlike_72
    have h := h.2 c7
    refine lv_iconst (v := (0 : Int32)) hx hb dX11_isAlike_32 (by decide) ?_
    exact hret H locs ls 33 _ _ _ _ _ hw h rfl (show 0 ≤ 82 by omega) (show 0 ≤ 3370 by omega) dX11_isAlike_33)
  refine lv_if_eq (tgt := 19) hx hb dX11_isAlike_5 (by decide) (fun c81 => ?_) (fun c81 => ?_)
  · have h := h.1 c81
    refine lv_iconst (v := (0 : Int32)) hx hb dX11_isAlike_19 (by decide) ?_
    exact h H locs ls hw (lv_sub hl [0, 1, 2, 3] rfl)
  have h := h.2 c81
  refine lv_iload_n hx hb dX11_isAlike_8 rfl (lv_at hl 2 rfl) ?_
  refine P_calli (va_runS (own := "LeastreaderModel") (As := [.int a2]) (rest := [.ref (ad 0)]) ⟨hx, hb, hml, hown, ht⟩ (c_X11_isOne a2 h) (va_cwS 1 ht (G_S q_1346 q_1347 q_56 q_1348) rfl rfl rfl hd_91 ⟨Nat.le_of_ble_eq_true rfl, Nat.le_of_ble_eq_true rfl⟩) ⟨PM_blind, PM_pre⟩ rfl rfl hl.1 rfl (lv_room (Nat.le_of_ble_eq_true rfl)) dX11_isAlike_9 ⟨show 0 + 0 ≤ 82 by omega, show 0 + 0 ≤ 3370 by omega⟩) (fun r82 h => ?_)
  refine lv_if_eq (tgt := 19) hx hb dX11_isAlike_12 (by decide) (fun c83 => ?_) (fun c83 => ?_)
  · have h := h.1 c83
    refine lv_iconst (v := (0 : Int32)) hx hb dX11_isAlike_19 (by decide) ?_
    exact h H locs ls hw (lv_sub hl [0, 1, 2, 3] rfl)
  have h := h.2 c83
  refine lv_iconst (v := (1 : Int32)) hx hb dX11_isAlike_15 (by decide) ?_
  refine lv_goto (tgt := 20) hx hb dX11_isAlike_16 (by decide) ?_
  exact h H locs ls hw (lv_sub hl [0, 1, 2, 3] rfl)
def wp_X11_pairs (μ : TMem) (a1 : Int32) (a2 : Int32) (Q : Int32 → TMem → Prop) : Prop :=
  wp_X11_isOne a1 (fun (r1 : Int32) => ∀ J2 : Int32 → Prop, (∀ (j3 : Int32), (wp_X11_isThrown μ j3 (1 : Int32) (fun (r5 : Int32) (μ4 : TMem) => (r5 = 0 → (wp_X11_pairsOf μ4 a1 a2 (fun (r19 : Option AI) => (r19 = none → (wp_X11_isCrowded_n μ4 (2 : Int32) (fun (r13 : Int32) (μ12 : TMem) => (r13 = 0 → (False)) ∧ (¬ r13 = 0 → (Q (0 : Int32) μ12))))) ∧ (∀ (n10 : Nat) (f11 : Nat → Int32), r19 = some (n10, f11) → (wp_X11_isCrowded μ4 n10 f11 (2 : Int32) (fun (r16 : Int32) (μ15 : TMem) => (r16 = 0 → (vp_in (0 : Int32) n10 ∧ (Q (f11 (0 : Int32).toNatClampNeg) μ15))) ∧ (¬ r16 = 0 → (Q (0 : Int32) μ15)))))))) ∧ (¬ r5 = 0 → (Q (0 : Int32) μ4)))) → J2 j3) → ((r1 = 0 → (J2 (0 : Int32))) ∧ (¬ r1 = 0 → (wp_X11_isOne a2 (fun (r21 : Int32) => (r21 = 0 → (J2 (0 : Int32))) ∧ (¬ r21 = 0 → (J2 (1 : Int32))))))))
set_option maxHeartbeats 4000000 in
set_option maxRecDepth 100000 in
theorem c_X11_pairs {l : Launch} {D : va_G} {ad : Nat → Nat} {cI cL : ClassId}  (μ : TMem) (sz : Nat) (a1 : Int32) (a2 : Int32)  {Q : Int32 → TMem → Prop} (h : wp_X11_pairs μ a1 a2 Q) : MMi l yX11_pairs (.code yX11_pairs cX11_pairs 4 (Option.some Jvm.ClassFile.FieldType.int)) 4 9 1222 [.ref (ad 0), .int a1, .int a2] D ad cI cL sz μ [] Q := by
  refine M_meti (by decide +kernel) (Nat.le_of_ble_eq_true rfl) ?_
  intro p e s m below meth c Z ls hx hb hml hown ht hK hP0 hI hne hw hret hl
  have hl : lv_has ls 4 [(0, .ref (ad 0)), (1, .int a1), (2, .int a2)] := hl
  suffices hh : ∀ (H : Heap) (locs : List Loc), MW D (MR ad cI μ) [] (MA ad s.heap.size) s H locs → W p l e (RA 4 9 1222) s m #[.ref (ad 0), .int a1, .int a2] below meth c H locs 0 0 Z (F0 m 0 ls []) from hh _ _ hw
  intro H locs hw
  change wp_X11_isOne a1 (fun (r1 : Int32) => ∀ J2 : Int32 → Prop, (∀ (j3 : Int32), (wp_X11_isThrown μ j3 (1 : Int32) (fun (r5 : Int32) (μ4 : TMem) => (r5 = 0 → (wp_X11_pairsOf μ4 a1 a2 (fun (r19 : Option AI) => (r19 = none → (wp_X11_isCrowded_n μ4 (2 : Int32) (fun (r13 : Int32) (μ12 : TMem) => (r13 = 0 → (False)) ∧ (¬ r13 = 0 → (Q (0 : Int32) μ12))))) ∧ (∀ (n10 : Nat) (f11 : Nat → Int32), r19 = some (n10, f11) → (wp_X11_isCrowded μ4 n10 f11 (2 : Int32) (fun (r16 : Int32) (μ15 : TMem) => (r16 = 0 → (vp_in (0 : Int32) n10 ∧ (Q (f11 (0 : Int32).toNatClampNeg) μ15))) ∧ (¬ r16 = 0 → (Q (0 : Int32) μ15)))))))) ∧ (¬ r5 = 0 → (Q (0 : Int32) μ4)))) → J2 j3) → ((r1 = 0 → (J2 (0 : Int32))) ∧ (¬ r1 = 0 → (wp_X11_isOne a2 (fun (r21 : Int32) => (r21 = 0 → (J2 (0 : Int32))) ∧ (¬ r21 = 0 → (J2 (1 : Int32)))))))) at h
  refine lv_aload_n hx hb dX11_pairs_0 rfl (lv_at hl 0 rfl) ?_
  refine lv_iload_n hx hb dX11_pairs_1 rfl (lv_at hl 1 rfl) ?_
  refine P_calli (va_runS (own := "LeastreaderModel") (As := [.int a1]) (rest := [.ref (ad 0)]) ⟨hx, hb, hml, hown, ht⟩ (c_X11_isOne a1 h) (va_cwS 1 ht (G_S q_1346 q_1347 q_56 q_1348) rfl rfl rfl hd_91 ⟨Nat.le_of_ble_eq_true rfl, Nat.le_of_ble_eq_true rfl⟩) ⟨PM_blind, PM_pre⟩ rfl rfl hl.1 rfl (lv_room (Nat.le_of_ble_eq_true rfl)) dX11_pairs_2 ⟨show 0 + 0 ≤ 9 by omega, show 0 + 0 ≤ 1222 by omega⟩) (fun r1 h => ?_)
  have h := h (fun (j3 : Int32) => ∀ (H : Heap) (locs : List Loc) (ls : Array Slot), MW D (MR ad cI μ) [] (MA ad s.heap.size) s H locs → lv_has ls 4 [(0, .ref (ad 0)), (1, .int a1), (2, .int a2)] → W p l e (RA 4 9 1222) s m #[.ref (ad 0), .int a1, .int a2] below meth c H locs 0 0 Z (F0 m 20 ls [.int j3, .ref (ad 0)])) (fun j3 h H locs ls hw hl => by
    refine lv_iconst (v := (1 : Int32)) hx hb dX11_pairs_20 (by decide) ?_
    refine M_calli hw (MA.up hw.2.2.1.1) (va_runV (own := "LeastreaderModel") (As := [.int j3, .int (1 : Int32)]) (rest := []) ⟨hx, hb, hml, hown, ht⟩ (c_X11_isThrown μ H.size j3 (1 : Int32) h) (cwV 2 ht (G_V q_1352 q_1354 q_26 q_56 q_1355) rfl rfl rfl ⟨rfl, hd_92⟩ ⟨Nat.le_of_ble_eq_true rfl, Nat.le_of_ble_eq_true rfl⟩) ⟨MB.blind, M_recv hK hw, MB.pre hK hI hw va_P0 ne0⟩ rfl rfl hl.1 rfl (lv_room (Nat.le_of_ble_eq_true rfl)) dX11_pairs_21 ⟨show 0 + 0 ≤ 9 by omega, show 0 + 0 ≤ 1222 by omega⟩) (fun r5 μ4 H locs h hw => ?_)
    refine lv_if_eq (tgt := 29) hx hb dX11_pairs_24 (by decide) (fun c6 => ?_) (fun c6 => ?_)
    · have h := h.1 c6
      refine lv_aload_n hx hb dX11_pairs_29 rfl (lv_at hl 0 rfl) ?_
      refine lv_iload_n hx hb dX11_pairs_30 rfl (lv_at hl 1 rfl) ?_
      refine lv_iload_n hx hb dX11_pairs_31 rfl (lv_at hl 2 rfl) ?_
      refine M_callA hw (MA.up hw.2.2.1.1) (va_runV (own := "LeastreaderModel") (As := [.int a1, .int a2]) (rest := []) ⟨hx, hb, hml, hown, ht⟩ (c_X11_pairsOf μ4 H.size a1 a2 h) (cwV 2 ht (G_V q_1567 q_1569 q_43 q_56 q_1570) rfl rfl rfl ⟨rfl, hd_112⟩ ⟨Nat.le_of_ble_eq_true rfl, Nat.le_of_ble_eq_true rfl⟩) ⟨MB.blind, M_recv hK hw, MB.pre hK hI hw va_P0 ne0⟩ rfl rfl hl.1 rfl (lv_room (Nat.le_of_ble_eq_true rfl)) dX11_pairs_32 ⟨show 0 + 9 ≤ 9 by omega, show 0 + 1222 ≤ 1222 by omega⟩) (fun μ7 H locs h hw => ?_) (fun q9 n10 f11 μ7 H locs hq9 h hw => ?_)
      · skip
        obtain ⟨e8, h⟩ := h
        rw [e8] at hw
        have h := h.1 rfl
        refine lv_astore_nN (lv' := [(3, .null), (0, .ref (ad 0)), (1, .int a1), (2, .int a2)]) hx hb dX11_pairs_35 rfl hl (by decide) rfl (fun ls hl => ?_)
        refine lv_aload_n hx hb dX11_pairs_36 rfl (lv_at hl 1 rfl) ?_
        refine lv_aload_nN hx hb dX11_pairs_37 rfl (lv_at hl 0 rfl) ?_
        refine lv_iconst (v := (2 : Int32)) hx hb dX11_pairs_38 (by decide) ?_
        refine M_calli hw (MA.up hw.2.2.1.1) (va_runV (own := "LeastreaderModel") (As := [.null, .int (2 : Int32)]) (rest := []) ⟨hx, hb, hml, hown, ht⟩ (c_X11_isCrowded_n μ4 H.size (2 : Int32) h) (cwV 2 ht (G_V q_1524 q_1526 q_42 q_56 q_1527) rfl rfl rfl ⟨rfl, hd_109⟩ ⟨Nat.le_of_ble_eq_true rfl, Nat.le_of_ble_eq_true rfl⟩) ⟨MB.blind, M_recv hK hw, MB.pre hK hI hw va_P0 ne0⟩ rfl rfl hl.1 rfl (lv_room (Nat.le_of_ble_eq_true rfl)) dX11_pairs_39 ⟨show 9 + 0 ≤ 9 by omega, show 1222 + 0 ≤ 1222 by omega⟩) (fun r13 μ12 H locs h hw => ?_)
        refine lv_if_eq (tgt := 49) hx hb dX11_pairs_42 (by decide) (fun c14 => ?_) (fun c14 => ?_)
        · have h := h.1 c14
          refine lv_aload_nN hx hb dX11_pairs_49 rfl (lv_at hl 0 rfl) ?_
          refine lv_iconst (v := (0 : Int32)) hx hb dX11_pairs_50 (by decide) ?_
          exact False.elim h
        have h := h.2 c14
        refine lv_iconst (v := (0 : Int32)) hx hb dX11_pairs_45 (by decide) ?_
        refine lv_goto (tgt := 52) hx hb dX11_pairs_46 (by decide) ?_
        exact hret H locs ls 52 _ _ _ _ _ hw h rfl (show 9 ≤ 9 by omega) (show 1222 ≤ 1222 by omega) dX11_pairs_52
      obtain ⟨e8, h⟩ := h
      rw [e8] at hw
      have h := h.2 _ _ rfl
      have hw : MW D (MR ad cI μ4) [eI cI q9 n10 f11] (MA ad s.heap.size) s H locs := hw
      refine lv_astore_n (lv' := [(3, .ref q9), (0, .ref (ad 0)), (1, .int a1), (2, .int a2)]) hx hb dX11_pairs_35 rfl hl (by decide) rfl (fun ls hl => ?_)
      refine lv_aload_n hx hb dX11_pairs_36 rfl (lv_at hl 1 rfl) ?_
      refine lv_aload_n hx hb dX11_pairs_37 rfl (lv_at hl 0 rfl) ?_
      refine lv_iconst (v := (2 : Int32)) hx hb dX11_pairs_38 (by decide) ?_
      refine M_calli hw (MA.up hw.2.2.1.1) (va_runV (own := "LeastreaderModel") (As := [.ref q9, .int (2 : Int32)]) (rest := []) ⟨hx, hb, hml, hown, ht⟩ (c_X11_isCrowded q9 μ4 H.size n10 f11 (2 : Int32) h) (cwV 2 ht (G_V q_1524 q_1526 q_42 q_56 q_1527) rfl rfl rfl ⟨rfl, hd_109⟩ ⟨Nat.le_of_ble_eq_true rfl, Nat.le_of_ble_eq_true rfl⟩) ⟨MB.blind, M_recv hK hw, MB.pre hK hI hw (va_Pc2 (hw.n (j := 0) rfl) va_P0) (neC (hw.ne (j := 0) rfl) ne0)⟩ rfl rfl hl.1 rfl (lv_room (Nat.le_of_ble_eq_true rfl)) dX11_pairs_39 ⟨show 9 + 0 ≤ 9 by omega, show 1222 + 0 ≤ 1222 by omega⟩) (fun r16 μ15 H locs h hw => ?_)
      refine lv_if_eq (tgt := 49) hx hb dX11_pairs_42 (by decide) (fun c17 => ?_) (fun c17 => ?_)
      · have h := h.1 c17
        refine lv_aload_n hx hb dX11_pairs_49 rfl (lv_at hl 0 rfl) ?_
        refine lv_iconst (v := (0 : Int32)) hx hb dX11_pairs_50 (by decide) ?_
        obtain ⟨z18, h⟩ := h
        refine n_iald hx hb hK (hw.n (j := 0) rfl) z18 dX11_pairs_51 ?_
        exact hret H locs ls 52 _ _ _ _ _ hw h rfl (show 9 ≤ 9 by omega) (show 1222 ≤ 1222 by omega) dX11_pairs_52
      have h := h.2 c17
      refine lv_iconst (v := (0 : Int32)) hx hb dX11_pairs_45 (by decide) ?_
      refine lv_goto (tgt := 52) hx hb dX11_pairs_46 (by decide) ?_
      exact hret H locs ls 52 _ _ _ _ _ hw h rfl (show 9 ≤ 9 by omega) (show 1222 ≤ 1222 by omega) dX11_pairs_52
    have h := h.2 c6
    refine lv_iconst (v := (0 : Int32)) hx hb dX11_pairs_27 (by decide) ?_
    exact hret H locs ls 28 _ _ _ _ _ hw h rfl (show 0 ≤ 9 by omega) (show 0 ≤ 1222 by omega) dX11_pairs_28)
  refine lv_if_eq (tgt := 19) hx hb dX11_pairs_5 (by decide) (fun c20 => ?_) (fun c20 => ?_)
  · have h := h.1 c20
    refine lv_iconst (v := (0 : Int32)) hx hb dX11_pairs_19 (by decide) ?_
    exact h H locs ls hw (lv_sub hl [0, 1, 2] rfl)
  have h := h.2 c20
  refine lv_iload_n hx hb dX11_pairs_8 rfl (lv_at hl 2 rfl) ?_
  refine P_calli (va_runS (own := "LeastreaderModel") (As := [.int a2]) (rest := [.ref (ad 0)]) ⟨hx, hb, hml, hown, ht⟩ (c_X11_isOne a2 h) (va_cwS 1 ht (G_S q_1346 q_1347 q_56 q_1348) rfl rfl rfl hd_91 ⟨Nat.le_of_ble_eq_true rfl, Nat.le_of_ble_eq_true rfl⟩) ⟨PM_blind, PM_pre⟩ rfl rfl hl.1 rfl (lv_room (Nat.le_of_ble_eq_true rfl)) dX11_pairs_9 ⟨show 0 + 0 ≤ 9 by omega, show 0 + 0 ≤ 1222 by omega⟩) (fun r21 h => ?_)
  refine lv_if_eq (tgt := 19) hx hb dX11_pairs_12 (by decide) (fun c22 => ?_) (fun c22 => ?_)
  · have h := h.1 c22
    refine lv_iconst (v := (0 : Int32)) hx hb dX11_pairs_19 (by decide) ?_
    exact h H locs ls hw (lv_sub hl [0, 1, 2] rfl)
  have h := h.2 c22
  refine lv_iconst (v := (1 : Int32)) hx hb dX11_pairs_15 (by decide) ?_
  refine lv_goto (tgt := 20) hx hb dX11_pairs_16 (by decide) ?_
  exact h H locs ls hw (lv_sub hl [0, 1, 2] rfl)
