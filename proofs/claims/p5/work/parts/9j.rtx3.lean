set_option maxHeartbeats 4000000 in
set_option maxRecDepth 100000 in
theorem c_X11_apart {l : Launch} {D : va_G} {ad : Nat → Nat} {cI cL cB : ClassId} (μ : TMem) (sz : Nat) (a1 a2 : Int32) (hRI : RI μ) : MS l yX11_apart (.code yX11_apart cX11_apart 6 (Option.some (Jvm.ClassFile.FieldType.object "java/lang/String"))) 6 1400 91500 [.ref (ad 0), .int a1, .int a2] D ad cI cL cB sz μ := by
  refine MS_met (by decide +kernel) (Nat.le_of_ble_eq_true rfl) ?_
  intro p e s mI below meth c Z ls hx hb hml hown ht hM hI hK hC hZ hX hw hret hl
  have hl : lv_has ls 6 [(0, .ref (ad 0)), (1, .int a1), (2, .int a2)] := hl
  suffices hh : ∀ (H : Heap) (locs : List Loc), MW D (MR ad cI μ) [] (MA ad s.heap.size) s H locs → W p l e (RA 6 1400 91500) s mI #[.ref (ad 0), .int a1, .int a2] below meth c H locs 0 0 Z (F0 mI 0 ls []) from hh _ _ hw
  intro H locs hw
  have hF0 := FA.rf hRI
  refine lv_aload_n hx hb dX11_apart_0 rfl (lv_at hl 0 rfl) ?_
  refine lv_iload_n hx hb dX11_apart_1 rfl (lv_at hl 1 rfl) ?_
  refine P_calli (va_runS (own := "LeastreaderModel") (As := [.int a1]) (rest := [.ref (ad 0)]) ⟨hx, hb, hml, hown, ht⟩ (c_X11_isOne a1 (t_isOne (Q := fun r => isB r ∧ (r ≠ 0 → M1 a1)) (fun r b h => ⟨b, h⟩))) (va_cwS 1 ht (G_S q_1346 q_1347 q_56 q_1348) rfl rfl rfl rd_0 ⟨Nat.le_of_ble_eq_true rfl, Nat.le_of_ble_eq_true rfl⟩) ⟨PM_blind, PM_pre⟩ rfl rfl hl.1 rfl (lv_room (Nat.le_of_ble_eq_true rfl)) dX11_apart_2 ⟨show 0 + 0 ≤ 1400 by omega, show 0 + 0 ≤ 91500 by omega⟩) (fun r1 hr1 => ?_)
  refine lv_if_eq (tgt := 19) hx hb dX11_apart_5 (by decide) (fun c9 => ?_) (fun c9 => ?_)
  · refine lv_iconst (v := (0 : Int32)) hx hb dX11_apart_19 (by decide) ?_
    refine lv_iconst (v := (1 : Int32)) hx hb dX11_apart_20 (by decide) ?_
    refine M_calli hw (MA.up hw.2.2.1.1) (va_runV (own := "LeastreaderModel") (As := [.int (0 : Int32), .int (1 : Int32)]) (rest := []) ⟨hx, hb, hml, hown, ht⟩ (c_X11_isThrown μ H.size (0 : Int32) (1 : Int32) (ta_isThrown (Qm := fun r μ9 => FA μ μ9 ∧ (r = 0 → (0 : Int32) ≠ 0 ∧ (1 : Int32) ≠ 0)) hRI (fun r μ9 _ f h => ⟨f, h⟩))) (cwV 2 ht (G_V q_1352 q_1354 q_26 q_56 q_1355) rfl rfl rfl ⟨rfl, rd_2⟩ ⟨Nat.le_of_ble_eq_true rfl, Nat.le_of_ble_eq_true rfl⟩) ⟨MB.blind, M_recv hM hw, MB.pre hM hI hw va_P0 ne0⟩ rfl rfl hl.1 rfl (lv_room (Nat.le_of_ble_eq_true rfl)) dX11_apart_21 ⟨show 0 + 0 ≤ 1400 by omega, show 0 + 0 ≤ 91500 by omega⟩) (fun rT μT H locs hrT hw => ?_)
    obtain ⟨hF, hT⟩ := hrT
    refine lv_if_eq (tgt := 30) hx hb dX11_apart_24 (by decide) (fun c9 => ?_) (fun c9 => ?_)
    · exact absurd rfl (hT c9).1
    · obtain ⟨sa2, sa2b, sa2w, sa2h, sa2r, sa2O⟩ := hX _ (List.mem_of_getElem? (i := 0) rfl)
      refine va_ldcS hx hb hown sa2r dX11_apart_27 ?_
      exact hret H locs ls 29 _ _ _ _ _ hw hF (show 0 + 0 ≤ 1400 by omega) (show 0 + 0 ≤ 91500 by omega) dX11_apart_29
  · have m1 := hr1.2 c9
    refine lv_iload_n hx hb dX11_apart_8 rfl (lv_at hl 2 rfl) ?_
    refine P_calli (va_runS (own := "LeastreaderModel") (As := [.int a2]) (rest := [.ref (ad 0)]) ⟨hx, hb, hml, hown, ht⟩ (c_X11_isOne a2 (t_isOne (Q := fun r => isB r ∧ (r ≠ 0 → M1 a2)) (fun r b h => ⟨b, h⟩))) (va_cwS 1 ht (G_S q_1346 q_1347 q_56 q_1348) rfl rfl rfl rd_0 ⟨Nat.le_of_ble_eq_true rfl, Nat.le_of_ble_eq_true rfl⟩) ⟨PM_blind, PM_pre⟩ rfl rfl hl.1 rfl (lv_room (Nat.le_of_ble_eq_true rfl)) dX11_apart_9 ⟨show 0 + 0 ≤ 1400 by omega, show 0 + 0 ≤ 91500 by omega⟩) (fun r3 hr3 => ?_)
    refine lv_if_eq (tgt := 19) hx hb dX11_apart_12 (by decide) (fun c9 => ?_) (fun c9 => ?_)
    · refine lv_iconst (v := (0 : Int32)) hx hb dX11_apart_19 (by decide) ?_
      refine lv_iconst (v := (1 : Int32)) hx hb dX11_apart_20 (by decide) ?_
      refine M_calli hw (MA.up hw.2.2.1.1) (va_runV (own := "LeastreaderModel") (As := [.int (0 : Int32), .int (1 : Int32)]) (rest := []) ⟨hx, hb, hml, hown, ht⟩ (c_X11_isThrown μ H.size (0 : Int32) (1 : Int32) (ta_isThrown (Qm := fun r μ9 => FA μ μ9 ∧ (r = 0 → (0 : Int32) ≠ 0 ∧ (1 : Int32) ≠ 0)) hRI (fun r μ9 _ f h => ⟨f, h⟩))) (cwV 2 ht (G_V q_1352 q_1354 q_26 q_56 q_1355) rfl rfl rfl ⟨rfl, rd_2⟩ ⟨Nat.le_of_ble_eq_true rfl, Nat.le_of_ble_eq_true rfl⟩) ⟨MB.blind, M_recv hM hw, MB.pre hM hI hw va_P0 ne0⟩ rfl rfl hl.1 rfl (lv_room (Nat.le_of_ble_eq_true rfl)) dX11_apart_21 ⟨show 0 + 0 ≤ 1400 by omega, show 0 + 0 ≤ 91500 by omega⟩) (fun rT μT H locs hrT hw => ?_)
      obtain ⟨hF, hT⟩ := hrT
      refine lv_if_eq (tgt := 30) hx hb dX11_apart_24 (by decide) (fun c9 => ?_) (fun c9 => ?_)
      · exact absurd rfl (hT c9).1
      · obtain ⟨sa4, sa4b, sa4w, sa4h, sa4r, sa4O⟩ := hX _ (List.mem_of_getElem? (i := 0) rfl)
        refine va_ldcS hx hb hown sa4r dX11_apart_27 ?_
        exact hret H locs ls 29 _ _ _ _ _ hw hF (show 0 + 0 ≤ 1400 by omega) (show 0 + 0 ≤ 91500 by omega) dX11_apart_29
    · have m2 := hr3.2 c9
      refine lv_iconst (v := (1 : Int32)) hx hb dX11_apart_15 (by decide) ?_
      refine lv_goto (tgt := 20) hx hb dX11_apart_16 (by decide) ?_
      refine lv_iconst (v := (1 : Int32)) hx hb dX11_apart_20 (by decide) ?_
      refine M_calli hw (MA.up hw.2.2.1.1) (va_runV (own := "LeastreaderModel") (As := [.int (1 : Int32), .int (1 : Int32)]) (rest := []) ⟨hx, hb, hml, hown, ht⟩ (c_X11_isThrown μ H.size (1 : Int32) (1 : Int32) (ta_isThrown (Qm := fun r μ9 => FA μ μ9 ∧ (r = 0 → (1 : Int32) ≠ 0 ∧ (1 : Int32) ≠ 0)) hRI (fun r μ9 _ f h => ⟨f, h⟩))) (cwV 2 ht (G_V q_1352 q_1354 q_26 q_56 q_1355) rfl rfl rfl ⟨rfl, rd_2⟩ ⟨Nat.le_of_ble_eq_true rfl, Nat.le_of_ble_eq_true rfl⟩) ⟨MB.blind, M_recv hM hw, MB.pre hM hI hw va_P0 ne0⟩ rfl rfl hl.1 rfl (lv_room (Nat.le_of_ble_eq_true rfl)) dX11_apart_21 ⟨show 0 + 0 ≤ 1400 by omega, show 0 + 0 ≤ 91500 by omega⟩) (fun rT μT H locs hrT hw => ?_)
      obtain ⟨hF, hT⟩ := hrT
      refine lv_if_eq (tgt := 30) hx hb dX11_apart_24 (by decide) (fun c9 => ?_) (fun c9 => ?_)
      · refine lv_aload_n hx hb dX11_apart_30 rfl (lv_at hl 0 rfl) ?_
        refine lv_iload_n hx hb dX11_apart_31 rfl (lv_at hl 1 rfl) ?_
        refine lv_iload_n hx hb dX11_apart_32 rfl (lv_at hl 2 rfl) ?_
        refine M_callA hw (MA.up hw.2.2.1.1) (va_runV (own := "LeastreaderModel") (As := [.int a1, .int a2]) (rest := []) ⟨hx, hb, hml, hown, ht⟩ (c_X11_pairsOf μT H.size a1 a2 (t_po m1 m2 hF.1)) (cwV 2 ht (G_V q_1567 q_1569 q_43 q_56 q_1570) rfl rfl rfl ⟨rfl, rd_11⟩ ⟨Nat.le_of_ble_eq_true rfl, Nat.le_of_ble_eq_true rfl⟩) ⟨MB.blind, M_recv hM hw, MB.pre hM hI hw va_P0 ne0⟩ rfl rfl hl.1 rfl (lv_room (Nat.le_of_ble_eq_true rfl)) dX11_apart_33 ⟨show 0 + 0 + 9 ≤ 1400 by omega, show 0 + 0 + 1222 ≤ 91500 by omega⟩) (fun μA H locs h hw => ?_) (fun qa nn ff μA H locs hqa h hw => ?_)
        · obtain ⟨e7, h⟩ := h
          rw [e7] at hw
          refine lv_astore_nN (lv' := [(3, .null), (0, .ref (ad 0)), (1, .int a1), (2, .int a2)]) hx hb dX11_apart_36 rfl hl (by decide) rfl (fun ls hl => ?_)
          refine lv_aload_n hx hb dX11_apart_37 rfl (lv_at hl 1 rfl) ?_
          refine lv_aload_nN hx hb dX11_apart_38 rfl (lv_at hl 0 rfl) ?_
          refine lv_iconst (v := (2 : Int32)) hx hb dX11_apart_39 (by decide) ?_
          refine M_calli hw (MA.up hw.2.2.1.1) (va_runV (own := "LeastreaderModel") (As := [.null, .int (2 : Int32)]) (rest := []) ⟨hx, hb, hml, hown, ht⟩ (c_X11_isCrowded_n μT H.size (2 : Int32) (ta_isCrowded_n (Qm := fun r μ9 => r = 1 ∧ FA μT μ9) hF.1 (fun μ9 f => ⟨rfl, f⟩))) (cwV 2 ht (G_V q_1524 q_1526 q_42 q_56 q_1527) rfl rfl rfl ⟨rfl, rd_4⟩ ⟨Nat.le_of_ble_eq_true rfl, Nat.le_of_ble_eq_true rfl⟩) ⟨MB.blind, M_recv hM hw, MB.pre hM hI hw va_P0 ne0⟩ rfl rfl hl.1 rfl (lv_room (Nat.le_of_ble_eq_true rfl)) dX11_apart_40 ⟨show 0 + 0 + 9 + 0 ≤ 1400 by omega, show 0 + 0 + 1222 + 0 ≤ 91500 by omega⟩) (fun rC μC H locs hrC hw => ?_)
          obtain ⟨hC0, hFC⟩ := hrC
          have hF2 := hF.trans hFC
          refine lv_if_ne (tgt := 56) hx hb dX11_apart_43 (by decide) (fun c9 => ?_) (fun c9 => absurd c9 (by rw [hC0]; decide))
          obtain ⟨sa5, sa5b, sa5w, sa5h, sa5r, sa5O⟩ := hX _ (List.mem_of_getElem? (i := 0) rfl)
          refine va_ldcS hx hb hown sa5r dX11_apart_56 ?_
          exact hret H locs ls 58 _ _ _ _ _ hw hF2 (show 0 + 0 + 9 + 0 ≤ 1400 by omega) (show 0 + 0 + 1222 + 0 ≤ 91500 by omega) dX11_apart_58
        · obtain ⟨e7, h⟩ := h
          rw [e7] at hw
          obtain ⟨e604, hMP, hap⟩ := h _ _ rfl
          subst e604
          have hw : MW D (MR ad cI μT) [(qa, .inl (cI, 604, .inl ff))] (MA ad s.heap.size) s H locs := hw
          refine lv_astore_n (lv' := [(3, .ref qa), (0, .ref (ad 0)), (1, .int a1), (2, .int a2)]) hx hb dX11_apart_36 rfl hl (by decide) rfl (fun ls hl => ?_)
          refine lv_aload_n hx hb dX11_apart_37 rfl (lv_at hl 1 rfl) ?_
          refine lv_aload_n hx hb dX11_apart_38 rfl (lv_at hl 0 rfl) ?_
          refine lv_iconst (v := (2 : Int32)) hx hb dX11_apart_39 (by decide) ?_
          refine M_calli hw (MA.up hw.2.2.1.1) (va_runV (own := "LeastreaderModel") (As := [.ref qa, .int (2 : Int32)]) (rest := []) ⟨hx, hb, hml, hown, ht⟩ (c_X11_isCrowded qa μT H.size 604 ff (2 : Int32) (ta_isCrowded' (Qm := fun r μ9 => r = 0 ∧ FA μT μ9 ∧ (∀ k : Nat, 1 ≤ k → μ9 k = μT k)) hF.1 (fun μ9 f e => ⟨rfl, f, e⟩))) (cwV 2 ht (G_V q_1524 q_1526 q_42 q_56 q_1527) rfl rfl rfl ⟨rfl, rd_4⟩ ⟨Nat.le_of_ble_eq_true rfl, Nat.le_of_ble_eq_true rfl⟩) ⟨MB.blind, M_recv hM hw, MB.pre hM hI hw (va_Pc2 (hw.n (j := 0) rfl) va_P0) (neC (hw.ne (j := 0) rfl) ne0)⟩ rfl rfl hl.1 rfl (lv_room (Nat.le_of_ble_eq_true rfl)) dX11_apart_40 ⟨show 0 + 0 + 9 + 0 ≤ 1400 by omega, show 0 + 0 + 1222 + 0 ≤ 91500 by omega⟩) (fun rC μC H locs hrC hw => ?_)
          obtain ⟨hC0, hFC, hEC⟩ := hrC
          have hF2 := hF.trans hFC
          refine lv_if_ne (tgt := 56) hx hb dX11_apart_43 (by decide) (fun c9 => absurd c9 (by rw [hC0]; decide)) (fun c9 => ?_)
          refine lv_aload_n hx hb dX11_apart_46 rfl (lv_at hl 1 rfl) ?_
          refine lv_iload_n hx hb dX11_apart_47 rfl (lv_at hl 2 rfl) ?_
          refine lv_iload_n hx hb dX11_apart_48 rfl (lv_at hl 3 rfl) ?_
          refine lv_aload_n hx hb dX11_apart_49 rfl (lv_at hl 0 rfl) ?_
          refine M_calli hw (MA.up hw.2.2.1.1) (va_runV (own := "LeastreaderModel") (As := [.int a1, .int a2, .ref qa]) (rest := []) ⟨hx, hb, hml, hown, ht⟩ (c_X11_isApart qa μC H.size a1 a2 604 ff (Q := isB) (hap μC hEC isB (fun r h => h))) (cwV 3 ht (G_V q_1571 q_1573 q_44 q_56 q_1574) rfl rfl rfl ⟨rfl, rd_12⟩ ⟨Nat.le_of_ble_eq_true rfl, Nat.le_of_ble_eq_true rfl⟩) ⟨MB.blind, M_recv hM hw, MB.pre hM hI hw (va_Pc2 (hw.n (j := 0) rfl) va_P0) (neC (hw.ne (j := 0) rfl) ne0)⟩ rfl rfl hl.1 rfl (lv_room (Nat.le_of_ble_eq_true rfl)) dX11_apart_50 ⟨show 0 + 0 + 9 + 0 + 8 ≤ 1400 by omega, show 0 + 0 + 1222 + 0 + 618 ≤ 91500 by omega⟩) (fun rA μB H locs hrA hw => ?_)
          obtain ⟨eA, bA⟩ := hrA
          rw [eA] at hw
          refine lv_if_ne (tgt := 59) hx hb dX11_apart_53 (by decide) (fun c9 => ?_) (fun c9 => ?_)
          · obtain ⟨z, hz0, hz1, hz2, hMG⟩ := hMP
            have L70 : ∀ (k : Nat) (at_ : Int32) (sq sv9 wn j cv sv : Nat) (fs : Nat → Int32) (H : Heap) (locs : List Loc) (ls : Array Slot), j < k → at_.toInt = (j : Int) → j < z → wn + j ≤ 201 → cv + 6 * j ≤ 1300 → sv + 445 * j ≤ 91000 → FT fs → MW D (MR ad cI μC) [(qa, .inl (cI, 604, .inl ff)), (sq, .inr (12, [.ref sv9, .int 0, .int 0, .int 0])), (sv9, .inl (cB, wn, .inl fs))] (MA ad s.heap.size) s H locs → lv_has ls 6 [(3, .ref qa), (4, .ref sq), (5, .int at_)] → W p l e (RA 6 1400 91500) s mI #[.ref (ad 0), .int a1, .int a2] below meth c H locs cv sv Z (F0 mI 70 ls []) := by
              intro k
              induction k with
              | zero => intro at_ sq sv9 wn j cv sv fs H locs ls hk; exact absurd hk (Nat.not_lt_zero _)
              | succ k ih =>
                intro at_ sq sv9 wn j cv sv fs H locs ls hk hat hjz hwn hcv hsv hfs hw hl
                refine lv_iload hx hb dX11_apart_70 (lv_at hl 2 rfl) ?_
                refine lv_if_le (tgt := 120) hx hb dX11_apart_72 (by decide) (fun c9 => ?_) (fun c9 => ?_)
                · refine lv_aload hx hb dX11_apart_120 (lv_at hl 1 rfl) ?_
                  exact hret H locs ls 122 _ _ _ _ _ hw hF2 (show cv ≤ 1400 by omega) (show sv ≤ 91500 by omega) dX11_apart_122
                · have hj1 : 1 ≤ j := by rw [l_le, ii_0] at c9; omega
                  obtain ⟨⟨hM1, hM2⟩, hM3⟩ := hMG j hj1 hjz
                  have i2 := i3 (c := (2 : Int32)) hat (by omega) (by decide) (by decide)
                  have i33 := i3 (c := (3 : Int32)) hat (by omega) (by decide) (by decide)
                  rw [show (2 : Int32).toInt = 2 from rfl] at i2
                  rw [show (3 : Int32).toInt = 3 from rfl] at i33
                  have i2c : ((3 : Int32) * at_ + (2 : Int32)).toNatClampNeg = 3 * j + 2 := by rw [ii_cl, i2]; omega
                  have i3c : ((3 : Int32) * at_ + (3 : Int32)).toNatClampNeg = 3 * j + 3 := by rw [ii_cl, i33]; omega
                  obtain ⟨g1, g2, g3, g4, g5, g6, g7⟩ := gsb (w := wn)
                  refine n_newO (fs := [.null, .int 0, .int 0, .int 0]) hx hb ht in_11 tyJ4 tyJ4_ok hown (ht _ q_1537) (ht _ q_893) (ht _ q_67) hK hw cl_11 (fun j hj => by rcases (show j = 0 ∨ j = 1 ∨ j = 2 ∨ j = 3 by omega) with rfl | rfl | rfl | rfl <;> rfl) (show cv + 1 ≤ 1400 by omega) (show sv + 4 ≤ 91500 by omega) dX11_apart_75 (fun q6 H hw => ?_)
                  have hw : MW D (MR ad cI μC) [(qa, .inl (cI, 604, .inl ff)), (sq, .inr (12, [.ref sv9, .int 0, .int 0, .int 0])), (sv9, .inl (cB, wn, .inl fs)), (q6, .inr (11, [.null, .int 0, .int 0, .int 0]))] (MA ad s.heap.size) s H locs := hw
                  refine lv_dup hx hb dX11_apart_78 rfl ?_
                  refine J_callv (N0 := [(qa, .inl (cI, 604, .inl ff)), (sq, .inr (12, [.ref sv9, .int 0, .int 0, .int 0])), (sv9, .inl (cB, wn, .inl fs))]) (ws := [(q6, .inr (11, [.null, .int 0, .int 0, .int 0]))]) hw (va_runI (own := "LeastreaderModel") (As := []) (rest := [.ref q6]) ⟨hx, hb, hml, hown, ht⟩ (c_J4_init_da8c8 q6 H.size) (cwI 0 ht (G_ws q_896) rfl rfl rfl (ht _ q_67) (ht _ q_1538) (ht _ q_895) rfl rd_5 ⟨Nat.le_of_ble_eq_true rfl, Nat.le_of_ble_eq_true rfl⟩) ⟨JB.blind, JB.pre (N0 := [(qa, .inl (cI, 604, .inl ff)), (sq, .inr (12, [.ref sv9, .int 0, .int 0, .int 0])), (sv9, .inl (cB, wn, .inl fs))]) (ws := [(q6, .inr (11, [.null, .int 0, .int 0, .int 0]))]) hK hC hZ hw SL0⟩ rfl rfl hl.1 rfl (lv_room (Nat.le_of_ble_eq_true rfl)) dX11_apart_79 ⟨show cv + 1 + 1 ≤ 1400 by omega, show sv + 4 + 16 ≤ 91500 by omega⟩) (fun u7 H locs hp8 hw => ?_)
                  have hw : MW D (MR ad cI μC) [(qa, .inl (cI, 604, .inl ff)), (sq, .inr (12, [.ref sv9, .int 0, .int 0, .int 0])), (sv9, .inl (cB, wn, .inl fs)), (q6, .inr (11, [.ref u7, .int 0, .int 0, .int (nI 0)])), (u7, .inl (cB, 16, .inl (fun _ => 0)))] (MA ad s.heap.size) s H locs := hw
                  refine lv_bipush (v := (97 : Int32)) hx hb dX11_apart_82 (by decide) ?_
                  refine lv_aload_n hx hb dX11_apart_84 rfl (lv_at hl 0 rfl) ?_
                  refine lv_iconst (v := (3 : Int32)) hx hb dX11_apart_85 (by decide) ?_
                  refine lv_iload hx hb dX11_apart_86 (lv_at hl 2 rfl) ?_
                  refine lv_imul hx hb dX11_apart_88 ?_
                  refine lv_iconst (v := (3 : Int32)) hx hb dX11_apart_89 (by decide) ?_
                  refine lv_iadd hx hb dX11_apart_90 ?_
                  refine n_iald hx hb hM (hw.n (j := 0) rfl) (i := (((3 : Int32) * at_) + (3 : Int32))) (vin (by omega)) dX11_apart_91 ?_
                  refine lv_topi (fun y1 ey1 => ?_)
                  rw [i3c] at ey1
                  have hy1 : rng y1 := by rw [ey1]; exact hM3
                  refine lv_iadd hx hb dX11_apart_92 ?_
                  refine lv_i2c hx hb dX11_apart_93 rfl ?_
                  refine J_callr (N0 := [(qa, .inl (cI, 604, .inl ff)), (sq, .inr (12, [.ref sv9, .int 0, .int 0, .int 0])), (sv9, .inl (cB, wn, .inl fs))]) (ws := [(q6, .inr (11, [.ref u7, .int 0, .int 0, .int (nI 0)])), (u7, .inl (cB, 16, .inl (fun _ => 0)))]) hw (va_runV (own := "LeastreaderModel") (As := [.int ((((97 : Int32) + y1).toUInt32 % 65536).toInt32)]) (rest := []) ⟨hx, hb, hml, hown, ht⟩ (c_J4_append_cf468 q6 u7 16 0 (fun _ => 0) ((((97 : Int32) + y1).toUInt32 % 65536).toInt32) H.size (by omega) (by omega) (by omega) FT0 (ch_ok hy1)) (cwV 1 ht (G_V q_1542 q_924 q_925 q_67 q_926) rfl rfl rfl ⟨rfl, rd_9⟩ ⟨Nat.le_of_ble_eq_true rfl, Nat.le_of_ble_eq_true rfl⟩) ⟨JB.blind, J_recv hK hw (j := 3) rfl cl_11, JB.pre (N0 := [(qa, .inl (cI, 604, .inl ff)), (sq, .inr (12, [.ref sv9, .int 0, .int 0, .int 0])), (sv9, .inl (cB, wn, .inl fs))]) (ws := [(q6, .inr (11, [.ref u7, .int 0, .int 0, .int (nI 0)])), (u7, .inl (cB, 16, .inl (fun _ => 0)))]) hK hC hZ hw SL0⟩ rfl rfl hl.1 rfl (lv_room (Nat.le_of_ble_eq_true rfl)) dX11_apart_94 ⟨show cv + 1 + 1 + (gr (0 + 1) 16) ≤ 1400 by omega, show sv + 4 + 16 + (gs (0 + 1) 16) ≤ 91500 by omega⟩) (fun u12 H locs hp13 hw => ?_)
                  obtain ⟨v10, f11⟩ := u12
                  have hw : MW D (MR ad cI μC) [(qa, .inl (cI, 604, .inl ff)), (sq, .inr (12, [.ref sv9, .int 0, .int 0, .int 0])), (sv9, .inl (cB, wn, .inl fs)), (q6, .inr (11, [.ref v10, .int 0, .int 0, .int (nI (0 + 1))])), (v10, .inl (cB, (cap (0 + 1) 16), .inl f11))] (MA ad s.heap.size) s H locs := hw
                  refine lv_aload hx hb dX11_apart_97 (lv_at hl 1 rfl) ?_
                  refine J_callr (N0 := [(qa, .inl (cI, 604, .inl ff)), (sq, .inr (12, [.ref sv9, .int 0, .int 0, .int 0])), (sv9, .inl (cB, wn, .inl fs))]) (ws := [(q6, .inr (11, [.ref v10, .int 0, .int 0, .int (nI (0 + 1))])), (v10, .inl (cB, (cap (0 + 1) 16), .inl f11))]) hw (va_runV (own := "LeastreaderModel") (As := [.ref sq]) (rest := []) ⟨hx, hb, hml, hown, ht⟩ (c_J4_append_15ec4 sq sv9 wn q6 v10 (cap (0 + 1) 16) (0 + 1) f11 H.size (by omega) (by omega) (by omega) (by omega) hp13) (cwV 1 ht (G_V q_1540 q_1095 q_1096 q_67 q_1097) rfl rfl rfl ⟨rfl, rd_7⟩ ⟨Nat.le_of_ble_eq_true rfl, Nat.le_of_ble_eq_true rfl⟩) ⟨JB.blind, J_recv hK hw (j := 3) rfl cl_11, JB.pre (N0 := [(qa, .inl (cI, 604, .inl ff)), (sq, .inr (12, [.ref sv9, .int 0, .int 0, .int 0])), (sv9, .inl (cB, wn, .inl fs))]) (ws := [(q6, .inr (11, [.ref v10, .int 0, .int 0, .int (nI (0 + 1))])), (v10, .inl (cB, (cap (0 + 1) 16), .inl f11))]) hK hC hZ hw (SL1 (SO.ofN (N0 := [(qa, .inl (cI, 604, .inl ff)), (sq, .inr (12, [.ref sv9, .int 0, .int 0, .int 0])), (sv9, .inl (cB, wn, .inl fs))]) (ws := [(q6, .inr (11, [.ref v10, .int 0, .int 0, .int (nI (0 + 1))])), (v10, .inl (cB, (cap (0 + 1) 16), .inl f11))]) ht hK hw (j1 := 1) (j2 := 2) rfl rfl hfs (by omega)))⟩ rfl rfl hl.1 rfl (lv_room (Nat.le_of_ble_eq_true rfl)) dX11_apart_99 ⟨show cv + 1 + 1 + (gr (0 + 1) 16) + (gr (0 + 1 + wn) (cap (0 + 1) 16)) ≤ 1400 by omega, show sv + 4 + 16 + (gs (0 + 1) 16) + (gs (0 + 1 + wn) (cap (0 + 1) 16)) ≤ 91500 by omega⟩) (fun u17 H locs hp18 hw => ?_)
                  obtain ⟨v15, f16⟩ := u17
                  have hw : MW D (MR ad cI μC) [(qa, .inl (cI, 604, .inl ff)), (sq, .inr (12, [.ref sv9, .int 0, .int 0, .int 0])), (sv9, .inl (cB, wn, .inl fs)), (q6, .inr (11, [.ref v15, .int 0, .int 0, .int (nI (0 + 1 + wn))])), (v15, .inl (cB, (cap (0 + 1 + wn) (cap (0 + 1) 16)), .inl f16))] (MA ad s.heap.size) s H locs := hw
                  refine J_callr (N0 := [(qa, .inl (cI, 604, .inl ff)), (sq, .inr (12, [.ref sv9, .int 0, .int 0, .int 0])), (sv9, .inl (cB, wn, .inl fs))]) (ws := [(q6, .inr (11, [.ref v15, .int 0, .int 0, .int (nI (0 + 1 + wn))])), (v15, .inl (cB, (cap (0 + 1 + wn) (cap (0 + 1) 16)), .inl f16))]) hw (va_runV (own := "LeastreaderModel") (As := []) (rest := []) ⟨hx, hb, hml, hown, ht⟩ (c_J4_toString_0e30d q6 v15 (cap (0 + 1 + wn) (cap (0 + 1) 16)) (0 + 1 + wn) f16 H.size (by omega) (by omega) hp18) (cwV 0 ht (G_V q_1544 q_1054 q_1055 q_67 q_1056) rfl rfl rfl ⟨rfl, rd_6⟩ ⟨Nat.le_of_ble_eq_true rfl, Nat.le_of_ble_eq_true rfl⟩) ⟨JB.blind, J_recv hK hw (j := 3) rfl cl_11, JB.pre (N0 := [(qa, .inl (cI, 604, .inl ff)), (sq, .inr (12, [.ref sv9, .int 0, .int 0, .int 0])), (sv9, .inl (cB, wn, .inl fs))]) (ws := [(q6, .inr (11, [.ref v15, .int 0, .int 0, .int (nI (0 + 1 + wn))])), (v15, .inl (cB, (cap (0 + 1 + wn) (cap (0 + 1) 16)), .inl f16))]) hK hC hZ hw SL0⟩ rfl rfl hl.1 rfl (lv_room (Nat.le_of_ble_eq_true rfl)) dX11_apart_102 ⟨show cv + 1 + 1 + (gr (0 + 1) 16) + (gr (0 + 1 + wn) (cap (0 + 1) 16)) + 2 ≤ 1400 by omega, show sv + 4 + 16 + (gs (0 + 1) 16) + (gs (0 + 1 + wn) (cap (0 + 1) 16)) + ((0 + 1 + wn) + 4) ≤ 91500 by omega⟩) (fun u20 H locs hp21 hw => ?_)
                  have hw : MW D (MR ad cI μC) [(qa, .inl (cI, 604, .inl ff)), (sq, .inr (12, [.ref sv9, .int 0, .int 0, .int 0])), (sv9, .inl (cB, wn, .inl fs)), (u20.1, .inr (12, [.ref u20.2.1, .int 0, .int 0, .int 0])), (q6, .inr (11, [.ref v15, .int 0, .int 0, .int (nI (0 + 1 + wn))])), (v15, .inl (cB, (cap (0 + 1 + wn) (cap (0 + 1) 16)), .inl f16)), (u20.2.1, .inl (cB, (0 + 1 + wn), .inl u20.2.2))] (MA ad s.heap.size) s H locs := hw
                  refine lv_astore (lv' := [(4, .ref u20.1), (3, .ref qa), (5, .int at_)]) hx hb dX11_apart_105 hl (by decide) rfl (fun ls hl => ?_)
                  refine lv_aload_n hx hb dX11_apart_107 rfl (lv_at hl 1 rfl) ?_
                  refine lv_iconst (v := (3 : Int32)) hx hb dX11_apart_108 (by decide) ?_
                  refine lv_iload hx hb dX11_apart_109 (lv_at hl 2 rfl) ?_
                  refine lv_imul hx hb dX11_apart_111 ?_
                  refine lv_iconst (v := (2 : Int32)) hx hb dX11_apart_112 (by decide) ?_
                  refine lv_iadd hx hb dX11_apart_113 ?_
                  refine n_iald hx hb hM (hw.n (j := 0) rfl) (i := (((3 : Int32) * at_) + (2 : Int32))) (vin (by omega)) dX11_apart_114 ?_
                  refine lv_topi (fun y2 ey2 => ?_)
                  rw [i2c] at ey2
                  refine lv_istore (lv' := [(5, .int y2), (4, .ref u20.1), (3, .ref qa)]) hx hb dX11_apart_115 hl (by decide) rfl (fun ls hl => ?_)
                  refine lv_goto (tgt := 70) hx hb dX11_apart_117 (by decide) ?_
                  have hw := hw.sub (N' := [(qa, .inl (cI, 604, .inl ff)), (u20.1, .inr (12, [.ref u20.2.1, .int 0, .int 0, .int 0])), (u20.2.1, .inl (cB, (0 + 1 + wn), .inl u20.2.2))]) [0, 3, 6] (by decide) rfl
                  exact ih y2 u20.1 u20.2.1 (0 + 1 + wn) (ff (3 * j + 2)).toInt.toNat (cv + 1 + 1 + (gr (0 + 1) 16) + (gr (0 + 1 + wn) (cap (0 + 1) 16)) + 2) (sv + 4 + 16 + (gs (0 + 1) 16) + (gs (0 + 1 + wn) (cap (0 + 1) 16)) + ((0 + 1 + wn) + 4)) u20.2.2 H locs ls (by omega) (by rw [ey2]; omega) (by omega) (by omega) (by omega) (by omega) hp21 hw (lv_sub hl [2, 1, 0] rfl)
            obtain ⟨sa23, sa23b, sa23w, sa23h, sa23r, sa23O⟩ := hX _ (List.mem_of_getElem? (i := 3) rfl)
            refine va_ldcS hx hb hown sa23r dX11_apart_59 ?_
            refine lv_astore (lv' := [(4, .ref sa23), (3, .ref qa), (0, .ref (ad 0)), (1, .int a1), (2, .int a2)]) hx hb dX11_apart_61 hl (by decide) rfl (fun ls hl => ?_)
            refine lv_aload_n hx hb dX11_apart_63 rfl (lv_at hl 1 rfl) ?_
            refine lv_iconst (v := (0 : Int32)) hx hb dX11_apart_64 (by decide) ?_
            refine n_iald hx hb hM (hw.n (j := 0) rfl) (i := (0 : Int32)) (vin (by rw [ii_0]; omega)) dX11_apart_65 ?_
            refine lv_topi (fun y0 ey0 => ?_)
            refine lv_iconst (v := (1 : Int32)) hx hb dX11_apart_66 (by decide) ?_
            refine lv_isub hx hb dX11_apart_67 ?_
            refine lv_topi (fun at_ eat => ?_)
            have hy0 : y0.toInt = z := by rw [ey0]; exact hz0
            obtain ⟨j, hj⟩ : ∃ j : Nat, j + 1 = z := ⟨z - 1, by omega⟩
            have h11 : (1 : Int32).toInt = 1 := rfl
            have hat : at_.toInt = (j : Int) := by rw [eat]; exact (ii_s hy0 h11 (by omega) (by omega)).trans (by omega)
            have hjz : j < z := by omega
            refine lv_istore (lv' := [(5, .int at_), (4, .ref sa23), (3, .ref qa), (0, .ref (ad 0)), (1, .int a1), (2, .int a2)]) hx hb dX11_apart_68 hl (by decide) rfl (fun ls hl => ?_)
            refine lv_iload hx hb dX11_apart_70 (lv_at hl 0 rfl) ?_
            refine lv_if_le (tgt := 120) hx hb dX11_apart_72 (by decide) (fun c9 => ?_) (fun c9 => ?_)
            · refine lv_aload hx hb dX11_apart_120 (lv_at hl 1 rfl) ?_
              exact hret H locs ls 122 _ _ _ _ _ hw hF2 (show 0 + 0 + 9 + 0 + 8 ≤ 1400 by omega) (show 0 + 0 + 1222 + 0 + 618 ≤ 91500 by omega) dX11_apart_122
            · have hO := sa23O
              have hj1 : 1 ≤ j := by rw [l_le, ii_0] at c9; omega
              obtain ⟨⟨hM1, hM2⟩, hM3⟩ := hMG j hj1 hjz
              have i2 := i3 (c := (2 : Int32)) hat (by omega) (by decide) (by decide)
              have i33 := i3 (c := (3 : Int32)) hat (by omega) (by decide) (by decide)
              rw [show (2 : Int32).toInt = 2 from rfl] at i2
              rw [show (3 : Int32).toInt = 3 from rfl] at i33
              have i2c : ((3 : Int32) * at_ + (2 : Int32)).toNatClampNeg = 3 * j + 2 := by rw [ii_cl, i2]; omega
              have i3c : ((3 : Int32) * at_ + (3 : Int32)).toNatClampNeg = 3 * j + 3 := by rw [ii_cl, i33]; omega
              obtain ⟨g1, g2, g3, g4, g5, g6, g7⟩ := gsb (w := sa23w)
              refine n_newO (fs := [.null, .int 0, .int 0, .int 0]) hx hb ht in_11 tyJ4 tyJ4_ok hown (ht _ q_1537) (ht _ q_893) (ht _ q_67) hK hw cl_11 (fun j hj => by rcases (show j = 0 ∨ j = 1 ∨ j = 2 ∨ j = 3 by omega) with rfl | rfl | rfl | rfl <;> rfl) (show 0 + 0 + 9 + 0 + 8 + 1 ≤ 1400 by omega) (show 0 + 0 + 1222 + 0 + 618 + 4 ≤ 91500 by omega) dX11_apart_75 (fun q24 H hw => ?_)
              have hw : MW D (MR ad cI μC) [(qa, .inl (cI, 604, .inl ff)), (q24, .inr (11, [.null, .int 0, .int 0, .int 0]))] (MA ad s.heap.size) s H locs := hw
              refine lv_dup hx hb dX11_apart_78 rfl ?_
              refine J_callv (N0 := [(qa, .inl (cI, 604, .inl ff))]) (ws := [(q24, .inr (11, [.null, .int 0, .int 0, .int 0]))]) hw (va_runI (own := "LeastreaderModel") (As := []) (rest := [.ref q24]) ⟨hx, hb, hml, hown, ht⟩ (c_J4_init_da8c8 q24 H.size) (cwI 0 ht (G_ws q_896) rfl rfl rfl (ht _ q_67) (ht _ q_1538) (ht _ q_895) rfl rd_5 ⟨Nat.le_of_ble_eq_true rfl, Nat.le_of_ble_eq_true rfl⟩) ⟨JB.blind, JB.pre (N0 := [(qa, .inl (cI, 604, .inl ff))]) (ws := [(q24, .inr (11, [.null, .int 0, .int 0, .int 0]))]) hK hC hZ hw SL0⟩ rfl rfl hl.1 rfl (lv_room (Nat.le_of_ble_eq_true rfl)) dX11_apart_79 ⟨show 0 + 0 + 9 + 0 + 8 + 1 + 1 ≤ 1400 by omega, show 0 + 0 + 1222 + 0 + 618 + 4 + 16 ≤ 91500 by omega⟩) (fun u25 H locs hp26 hw => ?_)
              have hw : MW D (MR ad cI μC) [(qa, .inl (cI, 604, .inl ff)), (q24, .inr (11, [.ref u25, .int 0, .int 0, .int (nI 0)])), (u25, .inl (cB, 16, .inl (fun _ => 0)))] (MA ad s.heap.size) s H locs := hw
              refine lv_bipush (v := (97 : Int32)) hx hb dX11_apart_82 (by decide) ?_
              refine lv_aload_n hx hb dX11_apart_84 rfl (lv_at hl 2 rfl) ?_
              refine lv_iconst (v := (3 : Int32)) hx hb dX11_apart_85 (by decide) ?_
              refine lv_iload hx hb dX11_apart_86 (lv_at hl 0 rfl) ?_
              refine lv_imul hx hb dX11_apart_88 ?_
              refine lv_iconst (v := (3 : Int32)) hx hb dX11_apart_89 (by decide) ?_
              refine lv_iadd hx hb dX11_apart_90 ?_
              refine n_iald hx hb hM (hw.n (j := 0) rfl) (i := (((3 : Int32) * at_) + (3 : Int32))) (vin (by omega)) dX11_apart_91 ?_
              refine lv_topi (fun y1 ey1 => ?_)
              rw [i3c] at ey1
              have hy1 : rng y1 := by rw [ey1]; exact hM3
              refine lv_iadd hx hb dX11_apart_92 ?_
              refine lv_i2c hx hb dX11_apart_93 rfl ?_
              refine J_callr (N0 := [(qa, .inl (cI, 604, .inl ff))]) (ws := [(q24, .inr (11, [.ref u25, .int 0, .int 0, .int (nI 0)])), (u25, .inl (cB, 16, .inl (fun _ => 0)))]) hw (va_runV (own := "LeastreaderModel") (As := [.int ((((97 : Int32) + y1).toUInt32 % 65536).toInt32)]) (rest := []) ⟨hx, hb, hml, hown, ht⟩ (c_J4_append_cf468 q24 u25 16 0 (fun _ => 0) ((((97 : Int32) + y1).toUInt32 % 65536).toInt32) H.size (by omega) (by omega) (by omega) FT0 (ch_ok hy1)) (cwV 1 ht (G_V q_1542 q_924 q_925 q_67 q_926) rfl rfl rfl ⟨rfl, rd_9⟩ ⟨Nat.le_of_ble_eq_true rfl, Nat.le_of_ble_eq_true rfl⟩) ⟨JB.blind, J_recv hK hw (j := 1) rfl cl_11, JB.pre (N0 := [(qa, .inl (cI, 604, .inl ff))]) (ws := [(q24, .inr (11, [.ref u25, .int 0, .int 0, .int (nI 0)])), (u25, .inl (cB, 16, .inl (fun _ => 0)))]) hK hC hZ hw SL0⟩ rfl rfl hl.1 rfl (lv_room (Nat.le_of_ble_eq_true rfl)) dX11_apart_94 ⟨show 0 + 0 + 9 + 0 + 8 + 1 + 1 + (gr (0 + 1) 16) ≤ 1400 by omega, show 0 + 0 + 1222 + 0 + 618 + 4 + 16 + (gs (0 + 1) 16) ≤ 91500 by omega⟩) (fun u30 H locs hp31 hw => ?_)
              obtain ⟨v28, f29⟩ := u30
              have hw : MW D (MR ad cI μC) [(qa, .inl (cI, 604, .inl ff)), (q24, .inr (11, [.ref v28, .int 0, .int 0, .int (nI (0 + 1))])), (v28, .inl (cB, (cap (0 + 1) 16), .inl f29))] (MA ad s.heap.size) s H locs := hw
              refine lv_aload hx hb dX11_apart_97 (lv_at hl 1 rfl) ?_
              refine J_callr (N0 := [(qa, .inl (cI, 604, .inl ff))]) (ws := [(q24, .inr (11, [.ref v28, .int 0, .int 0, .int (nI (0 + 1))])), (v28, .inl (cB, (cap (0 + 1) 16), .inl f29))]) hw (va_runV (own := "LeastreaderModel") (As := [.ref sa23]) (rest := []) ⟨hx, hb, hml, hown, ht⟩ (c_J4_append_15ec4 sa23 sa23b sa23w q24 v28 (cap (0 + 1) 16) (0 + 1) f29 H.size (by omega) (by omega) (by omega) (by omega) hp31) (cwV 1 ht (G_V q_1540 q_1095 q_1096 q_67 q_1097) rfl rfl rfl ⟨rfl, rd_7⟩ ⟨Nat.le_of_ble_eq_true rfl, Nat.le_of_ble_eq_true rfl⟩) ⟨JB.blind, J_recv hK hw (j := 1) rfl cl_11, JB.pre (N0 := [(qa, .inl (cI, 604, .inl ff))]) (ws := [(q24, .inr (11, [.ref v28, .int 0, .int 0, .int (nI (0 + 1))])), (v28, .inl (cB, (cap (0 + 1) 16), .inl f29))]) hK hC hZ hw (SL1 (SO.pass (N0 := [(qa, .inl (cI, 604, .inl ff))]) (ws := [(q24, .inr (11, [.ref v28, .int 0, .int 0, .int (nI (0 + 1))])), (v28, .inl (cB, (cap (0 + 1) 16), .inl f29))]) hO hw))⟩ rfl rfl hl.1 rfl (lv_room (Nat.le_of_ble_eq_true rfl)) dX11_apart_99 ⟨show 0 + 0 + 9 + 0 + 8 + 1 + 1 + (gr (0 + 1) 16) + (gr (0 + 1 + sa23w) (cap (0 + 1) 16)) ≤ 1400 by omega, show 0 + 0 + 1222 + 0 + 618 + 4 + 16 + (gs (0 + 1) 16) + (gs (0 + 1 + sa23w) (cap (0 + 1) 16)) ≤ 91500 by omega⟩) (fun u35 H locs hp36 hw => ?_)
              obtain ⟨v33, f34⟩ := u35
              have hw : MW D (MR ad cI μC) [(qa, .inl (cI, 604, .inl ff)), (q24, .inr (11, [.ref v33, .int 0, .int 0, .int (nI (0 + 1 + sa23w))])), (v33, .inl (cB, (cap (0 + 1 + sa23w) (cap (0 + 1) 16)), .inl f34))] (MA ad s.heap.size) s H locs := hw
              refine J_callr (N0 := [(qa, .inl (cI, 604, .inl ff))]) (ws := [(q24, .inr (11, [.ref v33, .int 0, .int 0, .int (nI (0 + 1 + sa23w))])), (v33, .inl (cB, (cap (0 + 1 + sa23w) (cap (0 + 1) 16)), .inl f34))]) hw (va_runV (own := "LeastreaderModel") (As := []) (rest := []) ⟨hx, hb, hml, hown, ht⟩ (c_J4_toString_0e30d q24 v33 (cap (0 + 1 + sa23w) (cap (0 + 1) 16)) (0 + 1 + sa23w) f34 H.size (by omega) (by omega) hp36) (cwV 0 ht (G_V q_1544 q_1054 q_1055 q_67 q_1056) rfl rfl rfl ⟨rfl, rd_6⟩ ⟨Nat.le_of_ble_eq_true rfl, Nat.le_of_ble_eq_true rfl⟩) ⟨JB.blind, J_recv hK hw (j := 1) rfl cl_11, JB.pre (N0 := [(qa, .inl (cI, 604, .inl ff))]) (ws := [(q24, .inr (11, [.ref v33, .int 0, .int 0, .int (nI (0 + 1 + sa23w))])), (v33, .inl (cB, (cap (0 + 1 + sa23w) (cap (0 + 1) 16)), .inl f34))]) hK hC hZ hw SL0⟩ rfl rfl hl.1 rfl (lv_room (Nat.le_of_ble_eq_true rfl)) dX11_apart_102 ⟨show 0 + 0 + 9 + 0 + 8 + 1 + 1 + (gr (0 + 1) 16) + (gr (0 + 1 + sa23w) (cap (0 + 1) 16)) + 2 ≤ 1400 by omega, show 0 + 0 + 1222 + 0 + 618 + 4 + 16 + (gs (0 + 1) 16) + (gs (0 + 1 + sa23w) (cap (0 + 1) 16)) + ((0 + 1 + sa23w) + 4) ≤ 91500 by omega⟩) (fun u38 H locs hp39 hw => ?_)
              have hw : MW D (MR ad cI μC) [(qa, .inl (cI, 604, .inl ff)), (u38.1, .inr (12, [.ref u38.2.1, .int 0, .int 0, .int 0])), (q24, .inr (11, [.ref v33, .int 0, .int 0, .int (nI (0 + 1 + sa23w))])), (v33, .inl (cB, (cap (0 + 1 + sa23w) (cap (0 + 1) 16)), .inl f34)), (u38.2.1, .inl (cB, (0 + 1 + sa23w), .inl u38.2.2))] (MA ad s.heap.size) s H locs := hw
              refine lv_astore (lv' := [(4, .ref u38.1), (5, .int at_), (3, .ref qa), (0, .ref (ad 0)), (1, .int a1), (2, .int a2)]) hx hb dX11_apart_105 hl (by decide) rfl (fun ls hl => ?_)
              refine lv_aload_n hx hb dX11_apart_107 rfl (lv_at hl 2 rfl) ?_
              refine lv_iconst (v := (3 : Int32)) hx hb dX11_apart_108 (by decide) ?_
              refine lv_iload hx hb dX11_apart_109 (lv_at hl 1 rfl) ?_
              refine lv_imul hx hb dX11_apart_111 ?_
              refine lv_iconst (v := (2 : Int32)) hx hb dX11_apart_112 (by decide) ?_
              refine lv_iadd hx hb dX11_apart_113 ?_
              refine n_iald hx hb hM (hw.n (j := 0) rfl) (i := (((3 : Int32) * at_) + (2 : Int32))) (vin (by omega)) dX11_apart_114 ?_
              refine lv_topi (fun y2 ey2 => ?_)
              rw [i2c] at ey2
              refine lv_istore (lv' := [(5, .int y2), (4, .ref u38.1), (3, .ref qa), (0, .ref (ad 0)), (1, .int a1), (2, .int a2)]) hx hb dX11_apart_115 hl (by decide) rfl (fun ls hl => ?_)
              refine lv_goto (tgt := 70) hx hb dX11_apart_117 (by decide) ?_
              have hw := hw.sub (N' := [(qa, .inl (cI, 604, .inl ff)), (u38.1, .inr (12, [.ref u38.2.1, .int 0, .int 0, .int 0])), (u38.2.1, .inl (cB, (0 + 1 + sa23w), .inl u38.2.2))]) [0, 1, 4] (by decide) rfl
              exact L70 _ y2 u38.1 u38.2.1 (0 + 1 + sa23w) (ff (3 * j + 2)).toInt.toNat (0 + 0 + 9 + 0 + 8 + 1 + 1 + (gr (0 + 1) 16) + (gr (0 + 1 + sa23w) (cap (0 + 1) 16)) + 2) (0 + 0 + 1222 + 0 + 618 + 4 + 16 + (gs (0 + 1) 16) + (gs (0 + 1 + sa23w) (cap (0 + 1) 16)) + ((0 + 1 + sa23w) + 4)) u38.2.2 H locs ls (Nat.lt_succ_self _) (by rw [ey2]; omega) (by omega) (by omega) (by omega) (by omega) hp39 hw (lv_sub hl [2, 1, 0] rfl)
          · obtain ⟨sa41, sa41b, sa41w, sa41h, sa41r, sa41O⟩ := hX _ (List.mem_of_getElem? (i := 0) rfl)
            refine va_ldcS hx hb hown sa41r dX11_apart_56 ?_
            exact hret H locs ls 58 _ _ _ _ _ hw hF2 (show 0 + 0 + 9 + 0 + 8 ≤ 1400 by omega) (show 0 + 0 + 1222 + 0 + 618 ≤ 91500 by omega) dX11_apart_58
      · obtain ⟨sa42, sa42b, sa42w, sa42h, sa42r, sa42O⟩ := hX _ (List.mem_of_getElem? (i := 0) rfl)
        refine va_ldcS hx hb hown sa42r dX11_apart_27 ?_
        exact hret H locs ls 29 _ _ _ _ _ hw hF (show 0 + 0 ≤ 1400 by omega) (show 0 + 0 ≤ 91500 by omega) dX11_apart_29
