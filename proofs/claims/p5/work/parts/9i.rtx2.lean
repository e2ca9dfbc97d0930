set_option maxHeartbeats 4000000 in
set_option maxRecDepth 100000 in
theorem c_X11_word {l : Launch} {D : va_G} {ad : Nat → Nat} {cI cL cB : ClassId} (μ : TMem) (sz : Nat) (a1 a2 : Int32) (hRI : RI μ) : MS l yX11_word (.code yX11_word cX11_word 12 (Option.some (Jvm.ClassFile.FieldType.object "java/lang/String"))) 6 500 20000 [.ref (ad 0), .int a1, .int a2] D ad cI cL cB sz μ := by
  refine MS_met (by decide +kernel) (Nat.le_of_ble_eq_true rfl) ?_
  intro p e s mI below meth c Z ls hx hb hml hown ht hM hI hK hC hZ hX hw hret hl
  have hl : lv_has ls 12 [(0, .ref (ad 0)), (1, .int a1), (2, .int a2)] := hl
  suffices hh : ∀ (H : Heap) (locs : List Loc), MW D (MR ad cI μ) [] (MA ad s.heap.size) s H locs → W p l e (RA 6 500 20000) s mI #[.ref (ad 0), .int a1, .int a2] below meth c H locs 0 0 Z (F0 mI 0 ls []) from hh _ _ hw
  intro H locs hw
  have hF0 := FA.rf hRI
  refine lv_aload_n hx hb dX11_word_0 rfl (lv_at hl 0 rfl) ?_
  refine lv_iload_n hx hb dX11_word_1 rfl (lv_at hl 1 rfl) ?_
  refine P_calli (va_runS (own := "LeastreaderModel") (As := [.int a1]) (rest := [.ref (ad 0)]) ⟨hx, hb, hml, hown, ht⟩ (c_X11_isOne a1 (t_isOne (Q := fun r => isB r ∧ (r ≠ 0 → M1 a1)) (fun r b h => ⟨b, h⟩))) (va_cwS 1 ht (G_S q_1346 q_1347 q_56 q_1348) rfl rfl rfl rd_0 ⟨Nat.le_of_ble_eq_true rfl, Nat.le_of_ble_eq_true rfl⟩) ⟨PM_blind, PM_pre⟩ rfl rfl hl.1 rfl (lv_room (Nat.le_of_ble_eq_true rfl)) dX11_word_2 ⟨show 0 + 0 ≤ 500 by omega, show 0 + 0 ≤ 20000 by omega⟩) (fun r1 hr1 => ?_)
  refine lv_iload_n hx hb dX11_word_5 rfl (lv_at hl 2 rfl) ?_
  refine lv_if_lt (tgt := 13) hx hb dX11_word_6 (by decide) (fun c9 => ?_) (fun c9 => ?_)
  · refine lv_iconst (v := (0 : Int32)) hx hb dX11_word_13 (by decide) ?_
    refine M_calli hw (MA.up hw.2.2.1.1) (va_runV (own := "LeastreaderModel") (As := [.int r1, .int (0 : Int32)]) (rest := []) ⟨hx, hb, hml, hown, ht⟩ (c_X11_isThrown μ H.size r1 (0 : Int32) (ta_isThrown (Qm := fun r μ9 => FA μ μ9 ∧ (r = 0 → r1 ≠ 0 ∧ (0 : Int32) ≠ 0)) hRI (fun r μ9 _ f h => ⟨f, h⟩))) (cwV 2 ht (G_V q_1352 q_1354 q_26 q_56 q_1355) rfl rfl rfl ⟨rfl, rd_2⟩ ⟨Nat.le_of_ble_eq_true rfl, Nat.le_of_ble_eq_true rfl⟩) ⟨MB.blind, M_recv hM hw, MB.pre hM hI hw va_P0 ne0⟩ rfl rfl hl.1 rfl (lv_room (Nat.le_of_ble_eq_true rfl)) dX11_word_14 ⟨show 0 + 0 ≤ 500 by omega, show 0 + 0 ≤ 20000 by omega⟩) (fun rT μT H locs hrT hw => ?_)
    obtain ⟨hF, hT⟩ := hrT
    refine lv_if_eq (tgt := 23) hx hb dX11_word_17 (by decide) (fun c9 => ?_) (fun c9 => ?_)
    · exact absurd rfl (hT c9).2
    · obtain ⟨sa2, sa2b, sa2w, sa2h, sa2r, sa2O⟩ := hX _ (List.mem_of_getElem? (i := 0) rfl)
      refine va_ldcS hx hb hown sa2r dX11_word_20 ?_
      exact hret H locs ls 22 _ _ _ _ _ hw hF (show 0 + 0 ≤ 500 by omega) (show 0 + 0 ≤ 20000 by omega) dX11_word_22
  · refine lv_iconst (v := (1 : Int32)) hx hb dX11_word_9 (by decide) ?_
    refine lv_goto (tgt := 14) hx hb dX11_word_10 (by decide) ?_
    refine M_calli hw (MA.up hw.2.2.1.1) (va_runV (own := "LeastreaderModel") (As := [.int r1, .int (1 : Int32)]) (rest := []) ⟨hx, hb, hml, hown, ht⟩ (c_X11_isThrown μ H.size r1 (1 : Int32) (ta_isThrown (Qm := fun r μ9 => FA μ μ9 ∧ (r = 0 → r1 ≠ 0 ∧ (1 : Int32) ≠ 0)) hRI (fun r μ9 _ f h => ⟨f, h⟩))) (cwV 2 ht (G_V q_1352 q_1354 q_26 q_56 q_1355) rfl rfl rfl ⟨rfl, rd_2⟩ ⟨Nat.le_of_ble_eq_true rfl, Nat.le_of_ble_eq_true rfl⟩) ⟨MB.blind, M_recv hM hw, MB.pre hM hI hw va_P0 ne0⟩ rfl rfl hl.1 rfl (lv_room (Nat.le_of_ble_eq_true rfl)) dX11_word_14 ⟨show 0 + 0 ≤ 500 by omega, show 0 + 0 ≤ 20000 by omega⟩) (fun rT μT H locs hrT hw => ?_)
    obtain ⟨hF, hT⟩ := hrT
    have h20 : 0 ≤ a2.toInt := by rw [l_lt, ii_0] at c9; omega
    refine lv_if_eq (tgt := 23) hx hb dX11_word_17 (by decide) (fun c9 => ?_) (fun c9 => ?_)
    · have hm := hr1.2 (hT c9).1
      refine lv_aload_n hx hb dX11_word_23 rfl (lv_at hl 0 rfl) ?_
      refine lv_iload_n hx hb dX11_word_24 rfl (lv_at hl 1 rfl) ?_
      refine lv_iconst (v := (0 : Int32)) hx hb dX11_word_25 (by decide) ?_
      refine M_callA hw (MA.up hw.2.2.1.1) (va_runV (own := "LeastreaderModel") (As := [.int a1, .int (0 : Int32)]) (rest := []) ⟨hx, hb, hml, hown, ht⟩ (c_X11_found μT H.size a1 (0 : Int32) (t_fnd (K := OWo) hm hF.1 (fun r hr => hr))) (cwV 2 ht (G_V q_1452 q_1454 q_36 q_56 q_1455) rfl rfl rfl ⟨rfl, rd_3⟩ ⟨Nat.le_of_ble_eq_true rfl, Nat.le_of_ble_eq_true rfl⟩) ⟨MB.blind, M_recv hM hw, MB.pre hM hI hw va_P0 ne0⟩ rfl rfl hl.1 rfl (lv_room (Nat.le_of_ble_eq_true rfl)) dX11_word_26 ⟨show 0 + 0 + 41 ≤ 500 by omega, show 0 + 0 + 1685 ≤ 20000 by omega⟩) (fun μA H locs h hw => ?_) (fun qa nn ff μA H locs hqa h hw => ?_)
      · obtain ⟨e7, h⟩ := h
        rw [e7] at hw
        refine lv_astore_nN (lv' := [(3, .null), (0, .ref (ad 0)), (1, .int a1), (2, .int a2)]) hx hb dX11_word_29 rfl hl (by decide) rfl (fun ls hl => ?_)
        refine lv_aload_n hx hb dX11_word_30 rfl (lv_at hl 1 rfl) ?_
        refine lv_aload_nN hx hb dX11_word_31 rfl (lv_at hl 0 rfl) ?_
        refine lv_iconst (v := (3 : Int32)) hx hb dX11_word_32 (by decide) ?_
        refine M_calli hw (MA.up hw.2.2.1.1) (va_runV (own := "LeastreaderModel") (As := [.null, .int (3 : Int32)]) (rest := []) ⟨hx, hb, hml, hown, ht⟩ (c_X11_isCrowded_n μT H.size (3 : Int32) (ta_isCrowded_n (Qm := fun r μ9 => r = 1 ∧ FA μT μ9) hF.1 (fun μ9 f => ⟨rfl, f⟩))) (cwV 2 ht (G_V q_1524 q_1526 q_42 q_56 q_1527) rfl rfl rfl ⟨rfl, rd_4⟩ ⟨Nat.le_of_ble_eq_true rfl, Nat.le_of_ble_eq_true rfl⟩) ⟨MB.blind, M_recv hM hw, MB.pre hM hI hw va_P0 ne0⟩ rfl rfl hl.1 rfl (lv_room (Nat.le_of_ble_eq_true rfl)) dX11_word_33 ⟨show 0 + 0 + 41 + 0 ≤ 500 by omega, show 0 + 0 + 1685 + 0 ≤ 20000 by omega⟩) (fun rC μC H locs hrC hw => ?_)
        obtain ⟨hC0, hFC⟩ := hrC
        have hF2 := hF.trans hFC
        refine lv_if_eq (tgt := 42) hx hb dX11_word_36 (by decide) (fun c9 => absurd c9 (by rw [hC0]; decide)) (fun c9 => ?_)
        obtain ⟨sa3, sa3b, sa3w, sa3h, sa3r, sa3O⟩ := hX _ (List.mem_of_getElem? (i := 0) rfl)
        refine va_ldcS hx hb hown sa3r dX11_word_39 ?_
        exact hret H locs ls 41 _ _ _ _ _ hw hF2 (show 0 + 0 + 41 + 0 ≤ 500 by omega) (show 0 + 0 + 1685 + 0 ≤ 20000 by omega) dX11_word_41
      · obtain ⟨e7, h⟩ := h
        rw [e7] at hw
        obtain ⟨S, hS1, hS, rfl, hfo, hgo⟩ := (h _ _ rfl).get
        have hw : MW D (MR ad cI μT) [(qa, .inl (cI, (4 * S), .inl ff))] (MA ad s.heap.size) s H locs := hw
        refine lv_astore_n (lv' := [(3, .ref qa), (0, .ref (ad 0)), (1, .int a1), (2, .int a2)]) hx hb dX11_word_29 rfl hl (by decide) rfl (fun ls hl => ?_)
        refine lv_aload_n hx hb dX11_word_30 rfl (lv_at hl 1 rfl) ?_
        refine lv_aload_n hx hb dX11_word_31 rfl (lv_at hl 0 rfl) ?_
        refine lv_iconst (v := (3 : Int32)) hx hb dX11_word_32 (by decide) ?_
        refine M_calli hw (MA.up hw.2.2.1.1) (va_runV (own := "LeastreaderModel") (As := [.ref qa, .int (3 : Int32)]) (rest := []) ⟨hx, hb, hml, hown, ht⟩ (c_X11_isCrowded qa μT H.size (4 * S) ff (3 : Int32) (ta_isCrowded' (Qm := fun r μ9 => r = 0 ∧ FA μT μ9 ∧ (∀ k : Nat, 1 ≤ k → μ9 k = μT k)) hF.1 (fun μ9 f e => ⟨rfl, f, e⟩))) (cwV 2 ht (G_V q_1524 q_1526 q_42 q_56 q_1527) rfl rfl rfl ⟨rfl, rd_4⟩ ⟨Nat.le_of_ble_eq_true rfl, Nat.le_of_ble_eq_true rfl⟩) ⟨MB.blind, M_recv hM hw, MB.pre hM hI hw (va_Pc2 (hw.n (j := 0) rfl) va_P0) (neC (hw.ne (j := 0) rfl) ne0)⟩ rfl rfl hl.1 rfl (lv_room (Nat.le_of_ble_eq_true rfl)) dX11_word_33 ⟨show 0 + 0 + 41 + 0 ≤ 500 by omega, show 0 + 0 + 1685 + 0 ≤ 20000 by omega⟩) (fun rC μC H locs hrC hw => ?_)
        obtain ⟨hC0, hFC, hEC⟩ := hrC
        have hF2 := hF.trans hFC
        refine lv_if_eq (tgt := 42) hx hb dX11_word_36 (by decide) (fun c9 => ?_) (fun c9 => absurd hC0 c9)
        obtain ⟨g, hWC, hways⟩ := wy S 12 ff (12 : Int32) hS1 hS (by decide) rfl hfo hgo
        refine lv_aload_n hx hb dX11_word_42 rfl (lv_at hl 0 rfl) ?_
        refine n_alenI hx hb hM (hw.n (j := 0) rfl) dX11_word_43 ?_
        refine lv_iconst (v := (4 : Int32)) hx hb dX11_word_44 (by decide) ?_
        refine lv_idiv hx hb dX11_word_45 (by decide) ?_
        refine lv_topi (fun x4 ex4 => ?_)
        rw [show x4 = (nI S) from ex4.trans (quart4 hS)]
        refine lv_istore (lv' := [(4, .int (nI S)), (3, .ref qa), (0, .ref (ad 0)), (1, .int a1), (2, .int a2)]) hx hb dX11_word_46 hl (by decide) rfl (fun ls hl => ?_)
        refine lv_aload_n hx hb dX11_word_48 rfl (lv_at hl 1 rfl) ?_
        refine lv_bipush (v := (12 : Int32)) hx hb dX11_word_49 (by decide) ?_
        refine S_callA hw (va_runS (own := "LeastreaderModel") (As := [.ref qa, .int (12 : Int32)]) (rest := []) ⟨hx, hb, hml, hown, ht⟩ (c_X11_ways qa H.size (4 * S) ff (12 : Int32) (Q := fun n f => n = S * 13 ∧ f = g) (hways _ ⟨rfl, rfl⟩)) (va_cwS 2 ht (G_S q_1556 q_1557 q_56 q_1558) rfl rfl rfl rd_10 ⟨Nat.le_of_ble_eq_true rfl, Nat.le_of_ble_eq_true rfl⟩) ⟨SB.blind, SB.pre hM (va_Pc2 (hw.n (j := 0) rfl) va_P0)⟩ rfl rfl hl.1 rfl (lv_room (Nat.le_of_ble_eq_true rfl)) dX11_word_51 ⟨show 0 + 0 + 41 + 0 + 1 ≤ 500 by omega, show 0 + 0 + 1685 + 0 + 416 ≤ 20000 by omega⟩) (fun H locs h hw => ?_) (fun qw nw fw H locs hqw h hw => ?_)
        · obtain ⟨_, _, e, _⟩ := h
          cases e
        · have e12 : nw = S * 13 ∧ fw = g := by
            obtain ⟨_, _, e, e1, e2⟩ := h
            cases e
            exact ⟨e1, e2⟩
          rw [e12.1, e12.2] at hw
          have hw : MW D (MR ad cI μC) [(qa, .inl (cI, (4 * S), .inl ff)), (qw, .inl (cI, (S * 13), .inl g))] (MA ad s.heap.size) s H locs := hw
          refine lv_astore (lv' := [(5, .ref qw), (4, .int (nI S)), (3, .ref qa), (0, .ref (ad 0)), (1, .int a1), (2, .int a2)]) hx hb dX11_word_54 hl (by decide) rfl (fun ls hl => ?_)
          refine lv_iload_n hx hb dX11_word_56 rfl (lv_at hl 5 rfl) ?_
          refine lv_istore (lv' := [(6, .int a2), (5, .ref qw), (4, .int (nI S)), (3, .ref qa), (0, .ref (ad 0)), (1, .int a1), (2, .int a2)]) hx hb dX11_word_57 hl (by decide) rfl (fun ls hl => ?_)
          refine lv_iconst (v := (0 : Int32)) hx hb dX11_word_59 (by decide) ?_
          refine lv_istore (lv' := [(7, .int (0 : Int32)), (6, .int a2), (5, .ref qw), (4, .int (nI S)), (3, .ref qa), (0, .ref (ad 0)), (1, .int a1), (2, .int a2)]) hx hb dX11_word_60 hl (by decide) rfl (fun ls hl => ?_)
          have J101 : ∀ (lf ln : Int32) (a : Nat) (H : Heap) (locs : List Loc) (ls : Array Slot), ln.toInt = (a : Int) → a ≤ 13 → 0 ≤ lf.toInt → (a ≤ 12 → lf.toInt < (g (a * S)).toInt) → MW D (MR ad cI μC) [(qa, .inl (cI, (4 * S), .inl ff)), (qw, .inl (cI, (S * 13), .inl g))] (MA ad s.heap.size) s H locs → lv_has ls 12 [(3, .ref qa), (4, .int (nI S)), (5, .ref qw), (6, .int lf), (7, .int ln)] → W p l e (RA 6 500 20000) s mI #[.ref (ad 0), .int a1, .int a2] below meth c H locs 42 2101 Z (F0 mI 101 ls []) := by
            intro lf ln a H locs ls hln ha h0 hlt hw hl
            refine lv_iload hx hb dX11_word_101 (lv_at hl 4 rfl) ?_
            refine lv_bipush (v := (12 : Int32)) hx hb dX11_word_103 (by decide) ?_
            refine lv_icmp_le (tgt := 111) hx hb dX11_word_105 (by decide) (fun c9 => ?_) (fun c9 => ?_)
            · have c1 : ln.toInt ≤ 12 := l_le.mp c9
              have hlf := hlt (by omega)
              refine lv_iconst (v := (0 : Int32)) hx hb dX11_word_111 (by decide) ?_
              refine lv_istore (lv' := [(8, .int (0 : Int32)), (3, .ref qa), (4, .int (nI S)), (5, .ref qw), (6, .int lf), (7, .int ln)]) hx hb dX11_word_112 hl (by decide) rfl (fun ls hl => ?_)
              refine n_newO (fs := [.null, .int 0, .int 0, .int 0]) hx hb ht in_11 tyJ4 tyJ4_ok hown (ht _ q_1537) (ht _ q_893) (ht _ q_67) hK hw cl_11 (fun j hj => by rcases (show j = 0 ∨ j = 1 ∨ j = 2 ∨ j = 3 by omega) with rfl | rfl | rfl | rfl <;> rfl) (show 42 + 1 ≤ 500 by omega) (show 2101 + 4 ≤ 20000 by omega) dX11_word_114 (fun q5 H hw => ?_)
              have hw : MW D (MR ad cI μC) [(qa, .inl (cI, (4 * S), .inl ff)), (qw, .inl (cI, (S * 13), .inl g)), (q5, .inr (11, [.null, .int 0, .int 0, .int 0]))] (MA ad s.heap.size) s H locs := hw
              refine lv_dup hx hb dX11_word_117 rfl ?_
              refine J_callv (N0 := [(qa, .inl (cI, (4 * S), .inl ff)), (qw, .inl (cI, (S * 13), .inl g))]) (ws := [(q5, .inr (11, [.null, .int 0, .int 0, .int 0]))]) hw (va_runI (own := "LeastreaderModel") (As := []) (rest := [.ref q5]) ⟨hx, hb, hml, hown, ht⟩ (c_J4_init_da8c8 q5 H.size) (cwI 0 ht (G_ws q_896) rfl rfl rfl (ht _ q_67) (ht _ q_1538) (ht _ q_895) rfl rd_5 ⟨Nat.le_of_ble_eq_true rfl, Nat.le_of_ble_eq_true rfl⟩) ⟨JB.blind, JB.pre (N0 := [(qa, .inl (cI, (4 * S), .inl ff)), (qw, .inl (cI, (S * 13), .inl g))]) (ws := [(q5, .inr (11, [.null, .int 0, .int 0, .int 0]))]) hK hC hZ hw SL0⟩ rfl rfl hl.1 rfl (lv_room (Nat.le_of_ble_eq_true rfl)) dX11_word_118 ⟨show 42 + 1 + 1 ≤ 500 by omega, show 2101 + 4 + 16 ≤ 20000 by omega⟩) (fun u6 H locs hp7 hw => ?_)
              have hw : MW D (MR ad cI μC) [(qa, .inl (cI, (4 * S), .inl ff)), (qw, .inl (cI, (S * 13), .inl g)), (q5, .inr (11, [.ref u6, .int 0, .int 0, .int (nI 0)])), (u6, .inl (cB, 16, .inl (fun _ => 0)))] (MA ad s.heap.size) s H locs := hw
              have hB0 : BSo 42 2101 16 0 (42 + 1 + 1) (2101 + 4 + 16) := ⟨by omega, by omega, by omega, by omega, by omega⟩
              refine lv_astore (lv' := [(9, .ref q5), (8, .int (0 : Int32)), (3, .ref qa), (4, .int (nI S)), (5, .ref qw), (6, .int lf), (7, .int ln)]) hx hb dX11_word_121 hl (by decide) rfl (fun ls hl => ?_)
              refine lv_iload hx hb dX11_word_123 (lv_at hl 6 rfl) ?_
              refine lv_iconst (v := (1 : Int32)) hx hb dX11_word_125 (by decide) ?_
              refine lv_isub hx hb dX11_word_126 ?_
              refine lv_topi (fun fr efr => ?_)
              have hfr : fr.toInt = (a : Int) - 1 := by rw [efr]; exact ii_s hln rfl (by omega) (by omega)
              refine lv_istore (lv' := [(10, .int fr), (9, .ref q5), (8, .int (0 : Int32)), (3, .ref qa), (4, .int (nI S)), (5, .ref qw), (6, .int lf), (7, .int ln)]) hx hb dX11_word_127 hl (by decide) rfl (fun ls hl => ?_)
              have L129 : ∀ (k : Nat) (fr lf st : Int32) (r t : Nat) (n v m cv sv : Nat) (f : Nat → Int32) (H : Heap) (locs : List Loc) (ls : Array Slot), r < k → fr.toInt = (r : Int) - 1 → r ≤ 12 → st.toInt = (t : Int) → t < S → 0 ≤ lf.toInt → lf.toInt < (g (r * S + t)).toInt → n + r ≤ 12 → BSo 42 2101 m n cv sv → FT f → MW D (MR ad cI μC) [(qa, .inl (cI, (4 * S), .inl ff)), (qw, .inl (cI, (S * 13), .inl g)), (q5, .inr (11, [.ref v, .int 0, .int 0, .int (nI n)])), (v, .inl (cB, m, .inl f))] (MA ad s.heap.size) s H locs → lv_has ls 12 [(3, .ref qa), (4, .int (nI S)), (5, .ref qw), (6, .int lf), (8, .int st), (9, .ref q5), (10, .int fr)] → W p l e (RA 6 500 20000) s mI #[.ref (ad 0), .int a1, .int a2] below meth c H locs cv sv Z (F0 mI 129 ls []) := by
                intro k
                induction k with
                | zero => intro fr lf st r t n v m cv sv f H locs ls hk; exact absurd hk (Nat.not_lt_zero _)
                | succ k ih =>
                  intro fr lf st r t n v m cv sv f H locs ls hk hfr hr hst ht9 h0 hl9 hn hB hf hw hl
                  refine lv_iload hx hb dX11_word_129 (lv_at hl 6 rfl) ?_
                  refine lv_if_lt (tgt := 218) hx hb dX11_word_131 (by decide) (fun c9 => ?_) (fun c9 => ?_)
                  · refine lv_aload hx hb dX11_word_218 (lv_at hl 5 rfl) ?_
                    refine lv_bipush (v := (46 : Int32)) hx hb dX11_word_220 (by decide) ?_
                    have hB9 := BSo.add 1 hB
                    have hB9x := hB9
                    obtain ⟨_, _, _, _, _⟩ := hB9x
                    have hBx := hB
                    obtain ⟨_, _, _, _, _⟩ := hBx
                    refine J_callr (N0 := [(qa, .inl (cI, (4 * S), .inl ff)), (qw, .inl (cI, (S * 13), .inl g))]) (ws := [(q5, .inr (11, [.ref v, .int 0, .int 0, .int (nI n)])), (v, .inl (cB, m, .inl f))]) hw (va_runV (own := "LeastreaderModel") (As := [.int (46 : Int32)]) (rest := []) ⟨hx, hb, hml, hown, ht⟩ (c_J4_append_cf468 q5 v m n f (46 : Int32) H.size (by omega) (by omega) (by omega) hf (by decide)) (cwV 1 ht (G_V q_1542 q_924 q_925 q_67 q_926) rfl rfl rfl ⟨rfl, rd_9⟩ ⟨Nat.le_of_ble_eq_true rfl, Nat.le_of_ble_eq_true rfl⟩) ⟨JB.blind, J_recv hK hw (j := 2) rfl cl_11, JB.pre (N0 := [(qa, .inl (cI, (4 * S), .inl ff)), (qw, .inl (cI, (S * 13), .inl g))]) (ws := [(q5, .inr (11, [.ref v, .int 0, .int 0, .int (nI n)])), (v, .inl (cB, m, .inl f))]) hK hC hZ hw SL0⟩ rfl rfl hl.1 rfl (lv_room (Nat.le_of_ble_eq_true rfl)) dX11_word_222 ⟨show cv + (gr (n + 1) m) ≤ 500 by omega, show sv + (gs (n + 1) m) ≤ 20000 by omega⟩) (fun u12 H locs hp13 hw => ?_)
                    obtain ⟨v10, f11⟩ := u12
                    have hw : MW D (MR ad cI μC) [(qa, .inl (cI, (4 * S), .inl ff)), (qw, .inl (cI, (S * 13), .inl g)), (q5, .inr (11, [.ref v10, .int 0, .int 0, .int (nI (n + 1))])), (v10, .inl (cB, (cap (n + 1) m), .inl f11))] (MA ad s.heap.size) s H locs := hw
                    have hBx := hB9
                    obtain ⟨_, _, _, _, _⟩ := hBx
                    refine J_callr (N0 := [(qa, .inl (cI, (4 * S), .inl ff)), (qw, .inl (cI, (S * 13), .inl g))]) (ws := [(q5, .inr (11, [.ref v10, .int 0, .int 0, .int (nI (n + 1))])), (v10, .inl (cB, (cap (n + 1) m), .inl f11))]) hw (va_runV (own := "LeastreaderModel") (As := []) (rest := []) ⟨hx, hb, hml, hown, ht⟩ (c_J4_toString_0e30d q5 v10 (cap (n + 1) m) (n + 1) f11 H.size (by omega) (by omega) hp13) (cwV 0 ht (G_V q_1544 q_1054 q_1055 q_67 q_1056) rfl rfl rfl ⟨rfl, rd_6⟩ ⟨Nat.le_of_ble_eq_true rfl, Nat.le_of_ble_eq_true rfl⟩) ⟨JB.blind, J_recv hK hw (j := 2) rfl cl_11, JB.pre (N0 := [(qa, .inl (cI, (4 * S), .inl ff)), (qw, .inl (cI, (S * 13), .inl g))]) (ws := [(q5, .inr (11, [.ref v10, .int 0, .int 0, .int (nI (n + 1))])), (v10, .inl (cB, (cap (n + 1) m), .inl f11))]) hK hC hZ hw SL0⟩ rfl rfl hl.1 rfl (lv_room (Nat.le_of_ble_eq_true rfl)) dX11_word_225 ⟨show cv + (gr (n + 1) m) + 2 ≤ 500 by omega, show sv + (gs (n + 1) m) + ((n + 1) + 4) ≤ 20000 by omega⟩) (fun u15 H locs hp16 hw => ?_)
                    have hw : MW D (MR ad cI μC) [(qa, .inl (cI, (4 * S), .inl ff)), (qw, .inl (cI, (S * 13), .inl g)), (u15.1, .inr (12, [.ref u15.2.1, .int 0, .int 0, .int 0])), (q5, .inr (11, [.ref v10, .int 0, .int 0, .int (nI (n + 1))])), (v10, .inl (cB, (cap (n + 1) m), .inl f11)), (u15.2.1, .inl (cB, (n + 1), .inl u15.2.2))] (MA ad s.heap.size) s H locs := hw
                    exact hret H locs ls 228 _ _ _ _ _ hw hF2 (show cv + (gr (n + 1) m) + 2 ≤ 500 by omega) (show sv + (gs (n + 1) m) + ((n + 1) + 4) ≤ 20000 by omega) dX11_word_228
                  · have hr1 : 1 ≤ r := by rw [l_lt, ii_0] at c9; omega
                    have w3 := (hWC r t ht9 (Or.inl (by omega))).2.2 hr1
                    obtain ⟨G0, eG0⟩ : ∃ z : Int, (g ((r - 1) * S + (ff (4 * t)).toInt.toNat)).toInt = z := ⟨_, rfl⟩
                    obtain ⟨G1, eG1⟩ : ∃ z : Int, (g ((r - 1) * S + (ff (4 * t + 1)).toInt.toNat)).toInt = z := ⟨_, rfl⟩
                    obtain ⟨G2, eG2⟩ : ∃ z : Int, (g ((r - 1) * S + (ff (4 * t + 2)).toInt.toNat)).toInt = z := ⟨_, rfl⟩
                    rw [eG0, eG1, eG2] at w3
                    have zq5 : (r - 1) * S ≤ 11 * S := Nat.mul_le_mul_right _ (by omega)
                    have J189 : ∀ (sg lf : Int32) (s1 : Nat) (n v m cv sv : Nat) (f : Nat → Int32) (H : Heap) (locs : List Loc) (ls : Array Slot), sg.toInt = (s1 : Int) → s1 ≤ 2 → 0 ≤ lf.toInt → lf.toInt < (g ((r - 1) * S + (ff (4 * t + s1)).toInt.toNat)).toInt → n + r ≤ 12 → BSo 42 2101 m n cv sv → FT f → MW D (MR ad cI μC) [(qa, .inl (cI, (4 * S), .inl ff)), (qw, .inl (cI, (S * 13), .inl g)), (q5, .inr (11, [.ref v, .int 0, .int 0, .int (nI n)])), (v, .inl (cB, m, .inl f))] (MA ad s.heap.size) s H locs → lv_has ls 12 [(3, .ref qa), (4, .int (nI S)), (5, .ref qw), (6, .int lf), (8, .int st), (9, .ref q5), (10, .int fr), (11, .int sg)] → W p l e (RA 6 500 20000) s mI #[.ref (ad 0), .int a1, .int a2] below meth c H locs cv sv Z (F0 mI 189 ls []) := by
                      intro sg lf s1 n v m cv sv f H locs ls hsg hs h0 hl9 hn hB hf hw hl
                      obtain ⟨p1, p2, p3⟩ := fourk (x := st) (y := sg) (S := S) (by omega) (by omega) hS (by omega) (by omega)
                      have p4 : ((4 : Int32) * st + sg).toNatClampNeg = 4 * t + s1 := by rw [p2]; omega
                      have hy := hfo t s1 ht9 (by omega)
                      refine lv_aload hx hb dX11_word_189 (lv_at hl 5 rfl) ?_
                      refine lv_bipush (v := (97 : Int32)) hx hb dX11_word_191 (by decide) ?_
                      refine lv_iload hx hb dX11_word_193 (lv_at hl 7 rfl) ?_
                      refine lv_iadd hx hb dX11_word_195 ?_
                      refine lv_i2c hx hb dX11_word_196 rfl ?_
                      have hB18 := BSo.add 1 hB
                      have hB18x := hB18
                      obtain ⟨_, _, _, _, _⟩ := hB18x
                      have hBx := hB
                      obtain ⟨_, _, _, _, _⟩ := hBx
                      refine J_callr (N0 := [(qa, .inl (cI, (4 * S), .inl ff)), (qw, .inl (cI, (S * 13), .inl g))]) (ws := [(q5, .inr (11, [.ref v, .int 0, .int 0, .int (nI n)])), (v, .inl (cB, m, .inl f))]) hw (va_runV (own := "LeastreaderModel") (As := [.int ((((97 : Int32) + sg).toUInt32 % 65536).toInt32)]) (rest := []) ⟨hx, hb, hml, hown, ht⟩ (c_J4_append_cf468 q5 v m n f ((((97 : Int32) + sg).toUInt32 % 65536).toInt32) H.size (by omega) (by omega) (by omega) hf (ch_ok (show rng sg from ⟨by omega, by omega⟩))) (cwV 1 ht (G_V q_1542 q_924 q_925 q_67 q_926) rfl rfl rfl ⟨rfl, rd_9⟩ ⟨Nat.le_of_ble_eq_true rfl, Nat.le_of_ble_eq_true rfl⟩) ⟨JB.blind, J_recv hK hw (j := 2) rfl cl_11, JB.pre (N0 := [(qa, .inl (cI, (4 * S), .inl ff)), (qw, .inl (cI, (S * 13), .inl g))]) (ws := [(q5, .inr (11, [.ref v, .int 0, .int 0, .int (nI n)])), (v, .inl (cB, m, .inl f))]) hK hC hZ hw SL0⟩ rfl rfl hl.1 rfl (lv_room (Nat.le_of_ble_eq_true rfl)) dX11_word_197 ⟨show cv + (gr (n + 1) m) ≤ 500 by omega, show sv + (gs (n + 1) m) ≤ 20000 by omega⟩) (fun u21 H locs hp22 hw => ?_)
                      obtain ⟨v19, f20⟩ := u21
                      have hw : MW D (MR ad cI μC) [(qa, .inl (cI, (4 * S), .inl ff)), (qw, .inl (cI, (S * 13), .inl g)), (q5, .inr (11, [.ref v19, .int 0, .int 0, .int (nI (n + 1))])), (v19, .inl (cB, (cap (n + 1) m), .inl f20))] (MA ad s.heap.size) s H locs := hw
                      refine lv_pop hx hb dX11_word_200 rfl ?_
                      refine lv_aload_n hx hb dX11_word_201 rfl (lv_at hl 0 rfl) ?_
                      refine lv_iconst (v := (4 : Int32)) hx hb dX11_word_202 (by decide) ?_
                      refine lv_iload hx hb dX11_word_203 (lv_at hl 4 rfl) ?_
                      refine lv_imul hx hb dX11_word_205 ?_
                      refine lv_iload hx hb dX11_word_206 (lv_at hl 7 rfl) ?_
                      refine lv_iadd hx hb dX11_word_208 ?_
                      refine n_iald hx hb hM (hw.n (j := 0) rfl) (i := (((4 : Int32) * st) + sg)) p3 dX11_word_209 ?_
                      refine lv_topi (fun y1 ey1 => ?_)
                      rw [p4] at ey1
                      refine lv_istore (lv' := [(8, .int y1), (3, .ref qa), (4, .int (nI S)), (5, .ref qw), (6, .int lf), (9, .ref q5), (10, .int fr), (11, .int sg)]) hx hb dX11_word_210 hl (by decide) rfl (fun ls hl => ?_)
                      obtain ⟨r2, er2⟩ : ∃ z, fr + Int32.ofInt (-1) = z := ⟨_, rfl⟩
                      have hr2 : r2.toInt = fr.toInt - 1 := by
                        rw [← er2, show Int32.ofInt (-1) = -1 from rfl, ← Int32.sub_eq_add_neg]
                        exact ii_s rfl rfl (by omega) (by omega)
                      refine lv_iinc (v := r2) (lv' := [(10, .int r2), (8, .int y1), (3, .ref qa), (4, .int (nI S)), (5, .ref qw), (6, .int lf), (9, .ref q5), (11, .int sg)]) hx hb dX11_word_212 hl (k := 6) rfl er2 (by decide) rfl (fun ls hl => ?_)
                      refine lv_goto (tgt := 129) hx hb dX11_word_215 (by decide) ?_
                      exact ih r2 lf y1 (r - 1) (ff (4 * t + s1)).toInt.toNat (n + 1) v19 (cap (n + 1) m) (cv + (gr (n + 1) m)) (sv + (gs (n + 1) m)) f20 H locs ls (by omega) (by omega) (by omega) (by rw [ey1]; omega) (by omega) h0 hl9 (by omega) hB18 hp22 hw (lv_sub hl [2, 3, 4, 5, 1, 6, 0] rfl)
                    have L137 : ∀ (k : Nat) (sg lf : Int32) (s1 : Nat) (n v m cv sv : Nat) (f : Nat → Int32) (H : Heap) (locs : List Loc) (ls : Array Slot), 3 - s1 < k → sg.toInt = (s1 : Int) → s1 ≤ 2 → 0 ≤ lf.toInt → LT3 s1 lf.toInt G0 G1 G2 → n + r ≤ 12 → BSo 42 2101 m n cv sv → FT f → MW D (MR ad cI μC) [(qa, .inl (cI, (4 * S), .inl ff)), (qw, .inl (cI, (S * 13), .inl g)), (q5, .inr (11, [.ref v, .int 0, .int 0, .int (nI n)])), (v, .inl (cB, m, .inl f))] (MA ad s.heap.size) s H locs → lv_has ls 12 [(3, .ref qa), (4, .int (nI S)), (5, .ref qw), (6, .int lf), (8, .int st), (9, .ref q5), (10, .int fr), (11, .int sg)] → W p l e (RA 6 500 20000) s mI #[.ref (ad 0), .int a1, .int a2] below meth c H locs cv sv Z (F0 mI 137 ls []) := by
                      intro k
                      induction k with
                      | zero => intro sg lf s1 n v m cv sv f H locs ls hk; exact absurd hk (Nat.not_lt_zero _)
                      | succ k ih2 =>
                        intro sg lf s1 n v m cv sv f H locs ls hk2 hsg hs h0 hl9 hn hB hf hw hl
                        obtain ⟨p1, p2, p3⟩ := fourk (x := st) (y := sg) (S := S) (by omega) (by omega) hS (by omega) (by omega)
                        have p4 : ((4 : Int32) * st + sg).toNatClampNeg = 4 * t + s1 := by rw [p2]; omega
                        have hy := hfo t s1 ht9 (by omega)
                        have zq1 := idx (x := fr) (y := nI S) (z := ff (4 * t + s1)) (a := r - 1) (S := S) (b := (ff (4 * t + s1)).toInt.toNat) (by omega) (ii_nI (by omega)) (by omega) (by omega) hS (by omega)
                        have zq2 : vp_in (fr * nI S + ff (4 * t + s1)) (S * 13) := vin (by rw [zq1.1]; omega)
                        refine lv_iload hx hb dX11_word_137 (lv_at hl 3 rfl) ?_
                        refine lv_aload hx hb dX11_word_139 (lv_at hl 2 rfl) ?_
                        refine lv_iload hx hb dX11_word_141 (lv_at hl 6 rfl) ?_
                        refine lv_iload hx hb dX11_word_143 (lv_at hl 1 rfl) ?_
                        refine lv_imul hx hb dX11_word_145 ?_
                        refine lv_aload_n hx hb dX11_word_146 rfl (lv_at hl 0 rfl) ?_
                        refine lv_iconst (v := (4 : Int32)) hx hb dX11_word_147 (by decide) ?_
                        refine lv_iload hx hb dX11_word_148 (lv_at hl 4 rfl) ?_
                        refine lv_imul hx hb dX11_word_150 ?_
                        refine lv_iload hx hb dX11_word_151 (lv_at hl 7 rfl) ?_
                        refine lv_iadd hx hb dX11_word_153 ?_
                        refine n_iald hx hb hM (hw.n (j := 0) rfl) (i := (((4 : Int32) * st) + sg)) p3 dX11_word_154 ?_
                        refine lv_topi (fun y1 ey1 => ?_)
                        rw [p4] at ey1
                        refine lv_iadd hx hb dX11_word_155 ?_
                        refine n_iald hx hb hM (hw.n (j := 1) rfl) (i := ((fr * (nI S)) + y1)) (by rw [ey1]; exact zq2) dX11_word_156 ?_
                        refine lv_topi (fun y2 ey2 => ?_)
                        rw [ey1, zq1.2.1] at ey2
                        have z2 : 0 ≤ y2.toInt := by rw [ey2]; exact (hWC (r - 1) _ (by omega) (Or.inl (by omega))).1
                        have hGs : EQ3 s1 y2.toInt G0 G1 G2 := ⟨fun z => by rw [ey2, z]; exact eG0, fun z => by rw [ey2, z]; exact eG1, fun z => by rw [ey2, z]; exact eG2⟩
                        refine lv_icmp_lt (tgt := 189) hx hb dX11_word_157 (by decide) (fun c9 => ?_) (fun c9 => ?_)
                        · exact J189 sg lf s1 n v m (cv) (sv) f H locs ls hsg hs h0 (by rw [← ey2]; exact l_lt.mp c9) (by omega) hB hf hw (lv_sub hl [0, 1, 2, 3, 4, 5, 6, 7] rfl)
                        · have c2 : y2.toInt ≤ lf.toInt := by rw [l_lt] at c9; omega
                          have hlt9 := lf.toInt_lt
                          refine lv_iload hx hb dX11_word_160 (lv_at hl 3 rfl) ?_
                          refine lv_aload hx hb dX11_word_162 (lv_at hl 2 rfl) ?_
                          refine lv_iload hx hb dX11_word_164 (lv_at hl 6 rfl) ?_
                          refine lv_iload hx hb dX11_word_166 (lv_at hl 1 rfl) ?_
                          refine lv_imul hx hb dX11_word_168 ?_
                          refine lv_aload_n hx hb dX11_word_169 rfl (lv_at hl 0 rfl) ?_
                          refine lv_iconst (v := (4 : Int32)) hx hb dX11_word_170 (by decide) ?_
                          refine lv_iload hx hb dX11_word_171 (lv_at hl 4 rfl) ?_
                          refine lv_imul hx hb dX11_word_173 ?_
                          refine lv_iload hx hb dX11_word_174 (lv_at hl 7 rfl) ?_
                          refine lv_iinc (v := (sg + (1 : Int32))) (lv' := [(11, .int (sg + (1 : Int32))), (3, .ref qa), (4, .int (nI S)), (5, .ref qw), (6, .int lf), (8, .int st), (9, .ref q5), (10, .int fr)]) hx hb dX11_word_176 hl (k := 7) rfl rfl (by decide) rfl (fun ls hl => ?_)
                          refine lv_iadd hx hb dX11_word_179 ?_
                          refine n_iald hx hb hM (hw.n (j := 0) rfl) (i := (((4 : Int32) * st) + sg)) p3 dX11_word_180 ?_
                          refine lv_topi (fun y3 ey3 => ?_)
                          rw [p4] at ey3
                          refine lv_iadd hx hb dX11_word_181 ?_
                          refine n_iald hx hb hM (hw.n (j := 1) rfl) (i := ((fr * (nI S)) + y3)) (by rw [ey3]; exact zq2) dX11_word_182 ?_
                          refine lv_topi (fun y4 ey4 => ?_)
                          rw [ey3, zq1.2.1, ← ey2] at ey4
                          have e5 : (lf - y4).toInt = lf.toInt - y2.toInt := ii_s rfl (congrArg Int32.toInt ey4) (by omega) (by omega)
                          have e6 : (sg + (1 : Int32)).toInt = sg.toInt + 1 := ii_a rfl rfl (by omega) (by omega)
                          obtain ⟨hs3, hl3⟩ := LT3.next hs hl9 hGs c2 e5
                          refine lv_isub hx hb dX11_word_183 ?_
                          refine lv_istore (lv' := [(6, .int (lf - y4)), (11, .int (sg + (1 : Int32))), (3, .ref qa), (4, .int (nI S)), (5, .ref qw), (8, .int st), (9, .ref q5), (10, .int fr)]) hx hb dX11_word_184 hl (by decide) rfl (fun ls hl => ?_)
                          refine lv_goto (tgt := 137) hx hb dX11_word_186 (by decide) ?_
                          exact ih2 (sg + (1 : Int32)) (lf - y4) (s1 + 1) n v m (cv) (sv) f H locs ls (by omega) (by omega) hs3 (by omega) hl3 hn hB hf hw (lv_sub hl [2, 3, 4, 0, 5, 6, 7, 1] rfl)
                    refine lv_iconst (v := (0 : Int32)) hx hb dX11_word_134 (by decide) ?_
                    refine lv_istore (lv' := [(11, .int (0 : Int32)), (3, .ref qa), (4, .int (nI S)), (5, .ref qw), (6, .int lf), (8, .int st), (9, .ref q5), (10, .int fr)]) hx hb dX11_word_135 hl (by decide) rfl (fun ls hl => ?_)
                    exact L137 _ (0 : Int32) lf 0 n v m (cv) (sv) f H locs ls (Nat.lt_succ_self _) (by decide) (by omega) h0 ⟨fun _ => by omega, fun z => absurd z (by decide), fun z => absurd z (by decide)⟩ hn hB hf hw (lv_sub hl [1, 2, 3, 4, 5, 6, 7, 0] rfl)
              exact L129 _ fr lf (0 : Int32) a 0 0 u6 16 (42 + 1 + 1) (2101 + 4 + 16) (fun _ => 0) H locs ls (Nat.lt_succ_self _) hfr (by omega) (by decide) (by omega) h0 hlf (by omega) hB0 FT0 hw (lv_sub hl [3, 4, 5, 6, 2, 1, 0] rfl)
            · obtain ⟨sa24, sa24b, sa24w, sa24h, sa24r, sa24O⟩ := hX _ (List.mem_of_getElem? (i := 0) rfl)
              refine va_ldcS hx hb hown sa24r dX11_word_108 ?_
              exact hret H locs ls 110 _ _ _ _ _ hw hF2 (show 42 ≤ 500 by omega) (show 2101 ≤ 20000 by omega) dX11_word_110
          have L62 : ∀ (k : Nat) (lf ln : Int32) (a : Nat) (H : Heap) (locs : List Loc) (ls : Array Slot), 13 - a < k → ln.toInt = (a : Int) → a ≤ 13 → 0 ≤ lf.toInt → MW D (MR ad cI μC) [(qa, .inl (cI, (4 * S), .inl ff)), (qw, .inl (cI, (S * 13), .inl g))] (MA ad s.heap.size) s H locs → lv_has ls 12 [(3, .ref qa), (4, .int (nI S)), (5, .ref qw), (6, .int lf), (7, .int ln)] → W p l e (RA 6 500 20000) s mI #[.ref (ad 0), .int a1, .int a2] below meth c H locs 42 2101 Z (F0 mI 62 ls []) := by
            intro k
            induction k with
            | zero => intro lf ln a H locs ls hk; exact absurd hk (Nat.not_lt_zero _)
            | succ k ih =>
              intro lf ln a H locs ls hk hln ha h0 hw hl
              refine lv_iload hx hb dX11_word_62 (lv_at hl 4 rfl) ?_
              refine lv_bipush (v := (12 : Int32)) hx hb dX11_word_64 (by decide) ?_
              refine lv_icmp_gt (tgt := 101) hx hb dX11_word_66 (by decide) (fun c9 => ?_) (fun c9 => ?_)
              · have c1 : (12 : Int32).toInt < ln.toInt := l_lt.mp c9
                rw [show (12 : Int32).toInt = 12 from rfl] at c1
                refine W.widen (show 42 ≤ 42 by omega) (show 2101 ≤ 2101 by omega) ?_
                exact J101 lf ln a H locs ls hln ha h0 (fun z => by omega) hw (lv_sub hl [0, 1, 2, 3, 4] rfl)
              · have c1 : ¬ (12 : Int32).toInt < ln.toInt := fun z => c9 (l_lt.mpr z)
                rw [show (12 : Int32).toInt = 12 from rfl] at c1
                obtain ⟨k1, k2⟩ := idm hln (by omega) hS1 hS
                have w1 : 0 ≤ (g (a * S)).toInt := (hWC a 0 hS1 (Or.inl (by omega))).1
                refine lv_iload hx hb dX11_word_69 (lv_at hl 3 rfl) ?_
                refine lv_aload hx hb dX11_word_71 (lv_at hl 2 rfl) ?_
                refine lv_iload hx hb dX11_word_73 (lv_at hl 4 rfl) ?_
                refine lv_iload hx hb dX11_word_75 (lv_at hl 1 rfl) ?_
                refine lv_imul hx hb dX11_word_77 ?_
                refine n_iald hx hb hM (hw.n (j := 1) rfl) (i := (ln * (nI S))) k2 dX11_word_78 ?_
                refine lv_topi (fun y1 ey1 => ?_)
                rw [k1] at ey1
                refine lv_icmp_lt (tgt := 101) hx hb dX11_word_79 (by decide) (fun c9 => ?_) (fun c9 => ?_)
                · refine W.widen (show 42 ≤ 42 by omega) (show 2101 ≤ 2101 by omega) ?_
                  exact J101 lf ln a H locs ls hln ha h0 (fun _ => by rw [← ey1]; exact l_lt.mp c9) hw (lv_sub hl [0, 1, 2, 3, 4] rfl)
                · have c2 : y1.toInt ≤ lf.toInt := by rw [l_lt] at c9; omega
                  have hlt9 := lf.toInt_lt
                  have e6 : (ln + (1 : Int32)).toInt = ln.toInt + 1 := ii_a rfl rfl (by omega) (by omega)
                  refine lv_iload hx hb dX11_word_82 (lv_at hl 3 rfl) ?_
                  refine lv_aload hx hb dX11_word_84 (lv_at hl 2 rfl) ?_
                  refine lv_iload hx hb dX11_word_86 (lv_at hl 4 rfl) ?_
                  refine lv_iinc (v := (ln + (1 : Int32))) (lv' := [(7, .int (ln + (1 : Int32))), (3, .ref qa), (4, .int (nI S)), (5, .ref qw), (6, .int lf)]) hx hb dX11_word_88 hl (k := 4) rfl rfl (by decide) rfl (fun ls hl => ?_)
                  refine lv_iload hx hb dX11_word_91 (lv_at hl 2 rfl) ?_
                  refine lv_imul hx hb dX11_word_93 ?_
                  refine n_iald hx hb hM (hw.n (j := 1) rfl) (i := (ln * (nI S))) k2 dX11_word_94 ?_
                  refine lv_topi (fun y2 ey2 => ?_)
                  rw [k1, ← ey1] at ey2
                  rw [← ey1] at w1
                  have e5 : (lf - y2).toInt = lf.toInt - y1.toInt := ii_s rfl (congrArg Int32.toInt ey2) (by omega) (by omega)
                  refine lv_isub hx hb dX11_word_95 ?_
                  refine lv_istore (lv' := [(6, .int (lf - y2)), (7, .int (ln + (1 : Int32))), (3, .ref qa), (4, .int (nI S)), (5, .ref qw)]) hx hb dX11_word_96 hl (by decide) rfl (fun ls hl => ?_)
                  refine lv_goto (tgt := 62) hx hb dX11_word_98 (by decide) ?_
                  refine W.widen (show 42 ≤ 42 by omega) (show 2101 ≤ 2101 by omega) ?_
                  exact ih (lf - y2) (ln + (1 : Int32)) (a + 1) H locs ls (by omega) (by omega) (by omega) (by omega) hw (lv_sub hl [2, 3, 4, 0, 1] rfl)
          refine W.widen (show 0 + 0 + 41 + 0 + 1 ≤ 42 by omega) (show 0 + 0 + 1685 + 0 + 416 ≤ 2101 by omega) ?_
          exact L62 _ a2 (0 : Int32) 0 H locs ls (Nat.lt_succ_self _) (by decide) (by omega) h20 hw (lv_sub hl [4, 3, 2, 1, 0] rfl)
    · obtain ⟨sa25, sa25b, sa25w, sa25h, sa25r, sa25O⟩ := hX _ (List.mem_of_getElem? (i := 0) rfl)
      refine va_ldcS hx hb hown sa25r dX11_word_20 ?_
      exact hret H locs ls 22 _ _ _ _ _ hw hF (show 0 + 0 ≤ 500 by omega) (show 0 + 0 ≤ 20000 by omega) dX11_word_22
