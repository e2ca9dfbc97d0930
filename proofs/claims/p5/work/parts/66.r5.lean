def wp_X11_pairsOf (μ : TMem) (a1 : Int32) (a2 : Int32) (Q : Option AI → Prop) : Prop :=
  wp_X11_oneWay_ μ a1 (fun (r23 : Option AI) => (r23 = none → (wp_X11_oneWay_ μ a2 (fun (r11 : Option AI) => (r11 = none → (Q none)) ∧ (∀ (n9 : Nat) (f10 : Nat → Int32), r11 = some (n9, f10) → (Q none))))) ∧ (∀ (n4 : Nat) (f5 : Nat → Int32), r23 = some (n4, f5) → (wp_X11_oneWay_ μ a2 (fun (r22 : Option AI) => (r22 = none → (Q none)) ∧ (∀ (n15 : Nat) (f16 : Nat → Int32), r22 = some (n15, f16) → (wp_X11_met n4 f5 n15 f16 (200 : Int32) (1 : Int32) (fun (n18 : Nat) (f19 : Nat → Int32) => vp_in (0 : Int32) n18 ∧ (((f19 (0 : Int32).toNatClampNeg) ≤ (200 : Int32) → (Q (some (n18, f19)))) ∧ (¬ (f19 (0 : Int32).toNatClampNeg) ≤ (200 : Int32) → (Q none))))))))))
set_option maxHeartbeats 4000000 in
set_option maxRecDepth 100000 in
theorem c_X11_pairsOf {l : Launch} {D : va_G} {ad : Nat → Nat} {cI cL : ClassId}  (μ : TMem) (sz : Nat) (a1 : Int32) (a2 : Int32)  {Q : Option AI → Prop} (h : wp_X11_pairsOf μ a1 a2 Q) : MMA l yX11_pairsOf (.code yX11_pairsOf cX11_pairsOf 6 (Option.some (Jvm.ClassFile.FieldType.array Jvm.ClassFile.FieldType.int))) 3 9 1222 [.ref (ad 0), .int a1, .int a2] D ad cI cL sz μ [] (fun o μ1 => μ1 = μ ∧ Q o) := by
  refine M_metA (by decide +kernel) (Nat.le_of_ble_eq_true rfl) ?_
  intro p e s m below meth c Z ls hx hb hml hown ht hK hP0 hI hne hw hret hretN hl
  have hl : lv_has ls 6 [(0, .ref (ad 0)), (1, .int a1), (2, .int a2)] := hl
  suffices hh : ∀ (H : Heap) (locs : List Loc), MW D (MR ad cI μ) [] (MA ad s.heap.size) s H locs → W p l e (RA 3 9 1222) s m #[.ref (ad 0), .int a1, .int a2] below meth c H locs 0 0 Z (F0 m 0 ls []) from hh _ _ hw
  intro H locs hw
  change wp_X11_oneWay_ μ a1 (fun (r23 : Option AI) => (r23 = none → (wp_X11_oneWay_ μ a2 (fun (r11 : Option AI) => (r11 = none → (Q none)) ∧ (∀ (n9 : Nat) (f10 : Nat → Int32), r11 = some (n9, f10) → (Q none))))) ∧ (∀ (n4 : Nat) (f5 : Nat → Int32), r23 = some (n4, f5) → (wp_X11_oneWay_ μ a2 (fun (r22 : Option AI) => (r22 = none → (Q none)) ∧ (∀ (n15 : Nat) (f16 : Nat → Int32), r22 = some (n15, f16) → (wp_X11_met n4 f5 n15 f16 (200 : Int32) (1 : Int32) (fun (n18 : Nat) (f19 : Nat → Int32) => vp_in (0 : Int32) n18 ∧ (((f19 (0 : Int32).toNatClampNeg) ≤ (200 : Int32) → (Q (some (n18, f19)))) ∧ (¬ (f19 (0 : Int32).toNatClampNeg) ≤ (200 : Int32) → (Q none)))))))))) at h
  refine lv_aload_n hx hb dX11_pairsOf_0 rfl (lv_at hl 0 rfl) ?_
  refine lv_iload_n hx hb dX11_pairsOf_1 rfl (lv_at hl 1 rfl) ?_
  refine M_callA hw (MA.up hw.2.2.1.1) (va_runV (own := "LeastreaderModel") (As := [.int a1]) (rest := []) ⟨hx, hb, hml, hown, ht⟩ (c_X11_oneWay_ μ H.size a1 h) (cwV 1 ht (G_V q_1456 q_1458 q_37 q_56 q_1459) rfl rfl rfl ⟨rfl, hd_86⟩ ⟨Nat.le_of_ble_eq_true rfl, Nat.le_of_ble_eq_true rfl⟩) ⟨MB.blind, M_recv hK hw, MB.pre hK hI hw va_P0 ne0⟩ rfl rfl hl.1 rfl (lv_room (Nat.le_of_ble_eq_true rfl)) dX11_pairsOf_2 ⟨show 0 + 4 ≤ 9 by omega, show 0 + 309 ≤ 1222 by omega⟩) (fun μ1 H locs h hw => ?_) (fun q3 n4 f5 μ1 H locs hq3 h hw => ?_)
  · skip
    obtain ⟨e2, h⟩ := h
    rw [e2] at hw
    have h := h.1 rfl
    refine lv_astore_nN (lv' := [(3, .null), (0, .ref (ad 0)), (1, .int a1), (2, .int a2)]) hx hb dX11_pairsOf_5 rfl hl (by decide) rfl (fun ls hl => ?_)
    refine lv_aload_n hx hb dX11_pairsOf_6 rfl (lv_at hl 1 rfl) ?_
    refine lv_iload_n hx hb dX11_pairsOf_7 rfl (lv_at hl 3 rfl) ?_
    refine M_callA hw (MA.up hw.2.2.1.1) (va_runV (own := "LeastreaderModel") (As := [.int a2]) (rest := []) ⟨hx, hb, hml, hown, ht⟩ (c_X11_oneWay_ μ H.size a2 h) (cwV 1 ht (G_V q_1456 q_1458 q_37 q_56 q_1459) rfl rfl rfl ⟨rfl, hd_86⟩ ⟨Nat.le_of_ble_eq_true rfl, Nat.le_of_ble_eq_true rfl⟩) ⟨MB.blind, M_recv hK hw, MB.pre hK hI hw va_P0 ne0⟩ rfl rfl hl.1 rfl (lv_room (Nat.le_of_ble_eq_true rfl)) dX11_pairsOf_8 ⟨show 4 + 4 ≤ 9 by omega, show 309 + 309 ≤ 1222 by omega⟩) (fun μ6 H locs h hw => ?_) (fun q8 n9 f10 μ6 H locs hq8 h hw => ?_)
    · skip
      obtain ⟨e7, h⟩ := h
      rw [e7] at hw
      have h := h.1 rfl
      refine lv_astoreN (lv' := [(4, .null), (3, .null), (0, .ref (ad 0)), (1, .int a1), (2, .int a2)]) hx hb dX11_pairsOf_11 hl (by decide) rfl (fun ls hl => ?_)
      refine lv_aload_nN hx hb dX11_pairsOf_13 rfl (lv_at hl 1 rfl) ?_
      refine lv_ifnullN (tgt := 22) hx hb dX11_pairsOf_14 (by decide) ?_
      refine lv_null hx hb dX11_pairsOf_22 ?_
      exact hretN H locs ls 23 _ _ _ _ hw ⟨rfl, h⟩ (show 8 ≤ 9 by omega) (show 618 ≤ 1222 by omega) dX11_pairsOf_23
    obtain ⟨e7, h⟩ := h
    rw [e7] at hw
    have h := h.2 _ _ rfl
    have hw : MW D (MR ad cI μ) [eI cI q8 n9 f10] (MA ad s.heap.size) s H locs := hw
    refine lv_astore (lv' := [(4, .ref q8), (3, .null), (0, .ref (ad 0)), (1, .int a1), (2, .int a2)]) hx hb dX11_pairsOf_11 hl (by decide) rfl (fun ls hl => ?_)
    refine lv_aload_nN hx hb dX11_pairsOf_13 rfl (lv_at hl 1 rfl) ?_
    refine lv_ifnullN (tgt := 22) hx hb dX11_pairsOf_14 (by decide) ?_
    refine lv_null hx hb dX11_pairsOf_22 ?_
    exact hretN H locs ls 23 _ _ _ _ hw ⟨rfl, h⟩ (show 8 ≤ 9 by omega) (show 618 ≤ 1222 by omega) dX11_pairsOf_23
  obtain ⟨e2, h⟩ := h
  rw [e2] at hw
  have h := h.2 _ _ rfl
  have hw : MW D (MR ad cI μ) [eI cI q3 n4 f5] (MA ad s.heap.size) s H locs := hw
  refine lv_astore_n (lv' := [(3, .ref q3), (0, .ref (ad 0)), (1, .int a1), (2, .int a2)]) hx hb dX11_pairsOf_5 rfl hl (by decide) rfl (fun ls hl => ?_)
  refine lv_aload_n hx hb dX11_pairsOf_6 rfl (lv_at hl 1 rfl) ?_
  refine lv_iload_n hx hb dX11_pairsOf_7 rfl (lv_at hl 3 rfl) ?_
  refine M_callA hw (MA.up hw.2.2.1.1) (va_runV (own := "LeastreaderModel") (As := [.int a2]) (rest := []) ⟨hx, hb, hml, hown, ht⟩ (c_X11_oneWay_ μ H.size a2 h) (cwV 1 ht (G_V q_1456 q_1458 q_37 q_56 q_1459) rfl rfl rfl ⟨rfl, hd_86⟩ ⟨Nat.le_of_ble_eq_true rfl, Nat.le_of_ble_eq_true rfl⟩) ⟨MB.blind, M_recv hK hw, MB.pre hK hI hw va_P0 ne0⟩ rfl rfl hl.1 rfl (lv_room (Nat.le_of_ble_eq_true rfl)) dX11_pairsOf_8 ⟨show 4 + 4 ≤ 9 by omega, show 309 + 309 ≤ 1222 by omega⟩) (fun μ12 H locs h hw => ?_) (fun q14 n15 f16 μ12 H locs hq14 h hw => ?_)
  · skip
    obtain ⟨e13, h⟩ := h
    rw [e13] at hw
    have h := h.1 rfl
    refine lv_astoreN (lv' := [(4, .null), (3, .ref q3), (0, .ref (ad 0)), (1, .int a1), (2, .int a2)]) hx hb dX11_pairsOf_11 hl (by decide) rfl (fun ls hl => ?_)
    refine lv_aload_n hx hb dX11_pairsOf_13 rfl (lv_at hl 1 rfl) ?_
    refine lv_ifnull hx hb dX11_pairsOf_14 ?_
    refine lv_aloadN hx hb dX11_pairsOf_17 (lv_at hl 0 rfl) ?_
    refine lv_ifnonnullN hx hb dX11_pairsOf_19 ?_
    refine lv_null hx hb dX11_pairsOf_22 ?_
    exact hretN H locs ls 23 _ _ _ _ hw ⟨rfl, h⟩ (show 8 ≤ 9 by omega) (show 618 ≤ 1222 by omega) dX11_pairsOf_23
  obtain ⟨e13, h⟩ := h
  rw [e13] at hw
  have h := h.2 _ _ rfl
  have hw : MW D (MR ad cI μ) [eI cI q3 n4 f5, eI cI q14 n15 f16] (MA ad s.heap.size) s H locs := hw
  refine lv_astore (lv' := [(4, .ref q14), (3, .ref q3), (0, .ref (ad 0)), (1, .int a1), (2, .int a2)]) hx hb dX11_pairsOf_11 hl (by decide) rfl (fun ls hl => ?_)
  refine lv_aload_n hx hb dX11_pairsOf_13 rfl (lv_at hl 1 rfl) ?_
  refine lv_ifnull hx hb dX11_pairsOf_14 ?_
  refine lv_aload hx hb dX11_pairsOf_17 (lv_at hl 0 rfl) ?_
  refine lv_ifnonnull (tgt := 24) hx hb dX11_pairsOf_19 (by decide) ?_
  refine lv_aload_n hx hb dX11_pairsOf_24 rfl (lv_at hl 1 rfl) ?_
  refine lv_aload hx hb dX11_pairsOf_25 (lv_at hl 0 rfl) ?_
  refine lv_sipush (v := (200 : Int32)) hx hb dX11_pairsOf_27 (by decide) ?_
  refine lv_iconst (v := (1 : Int32)) hx hb dX11_pairsOf_30 (by decide) ?_
  refine S_callA hw (va_runS (own := "LeastreaderModel") (As := [.ref q3, .ref q14, .int (200 : Int32), .int (1 : Int32)]) (rest := []) ⟨hx, hb, hml, hown, ht⟩ (c_X11_met q3 q14 H.size n4 f5 n15 f16 (200 : Int32) (1 : Int32) h) (va_cwS 4 ht (G_S q_1491 q_1492 q_56 q_1493) rfl rfl rfl hd_90 ⟨Nat.le_of_ble_eq_true rfl, Nat.le_of_ble_eq_true rfl⟩) ⟨SB.blind, SB.pre hK (va_Pc2 (hw.n (j := 0) rfl) (va_Pc2 (hw.n (j := 1) rfl) va_P0))⟩ rfl rfl hl.1 rfl (lv_room (Nat.le_of_ble_eq_true rfl)) dX11_pairsOf_31 ⟨show 8 + 1 ≤ 9 by omega, show 618 + 604 ≤ 1222 by omega⟩) (fun _ _ h _ => by obtain ⟨_, _, h, _⟩ := h; cases h) (fun q17 n18 f19 H locs hq17 h hw => ?_)
  obtain ⟨_, _, e9, h⟩ := h
  cases e9
  have hw : MW D (MR ad cI μ) [eI cI q3 n4 f5, eI cI q14 n15 f16, eI cI q17 n18 f19] (MA ad s.heap.size) s H locs := hw
  refine lv_astore (lv' := [(5, .ref q17), (4, .ref q14), (3, .ref q3), (0, .ref (ad 0)), (1, .int a1), (2, .int a2)]) hx hb dX11_pairsOf_34 hl (by decide) rfl (fun ls hl => ?_)
  refine lv_aload hx hb dX11_pairsOf_36 (lv_at hl 0 rfl) ?_
  refine lv_iconst (v := (0 : Int32)) hx hb dX11_pairsOf_38 (by decide) ?_
  obtain ⟨z20, h⟩ := h
  refine n_iald hx hb hK (hw.n (j := 2) rfl) z20 dX11_pairsOf_39 ?_
  refine lv_sipush (v := (200 : Int32)) hx hb dX11_pairsOf_40 (by decide) ?_
  refine lv_icmp_le (tgt := 50) hx hb dX11_pairsOf_43 (by decide) (fun c21 => ?_) (fun c21 => ?_)
  · have h := h.1 c21
    refine lv_aload hx hb dX11_pairsOf_50 (lv_at hl 0 rfl) ?_
    exact hret H locs ls 52 _ _ _ 2 _ _ _ _ hw rfl hq17 ⟨rfl, h⟩ (show 9 ≤ 9 by omega) (show 1222 ≤ 1222 by omega) dX11_pairsOf_52
  have h := h.2 c21
  refine lv_null hx hb dX11_pairsOf_46 ?_
  refine lv_goto (tgt := 52) hx hb dX11_pairsOf_47 (by decide) ?_
  exact hretN H locs ls 52 _ _ _ _ hw ⟨rfl, h⟩ (show 9 ≤ 9 by omega) (show 1222 ≤ 1222 by omega) dX11_pairsOf_52
def wp_X11_isApart (μ : TMem) (a1 : Int32) (a2 : Int32) (na3 : Nat) (fa3 : Nat → Int32) (Q : Int32 → Prop) : Prop :=
  wp_X11_oneWay_ μ a1 (fun (r28 : Option AI) => (r28 = none → (wp_X11_oneWay_ μ a2 (fun (r15 : Option AI) => (r15 = none → (vp_in (0 : Int32) na3 ∧ (vp_in (((3 : Int32) * (fa3 (0 : Int32).toNatClampNeg)) - (2 : Int32)) na3 ∧ (False)))) ∧ (∀ (n9 : Nat) (f10 : Nat → Int32), r15 = some (n9, f10) → (vp_in (0 : Int32) na3 ∧ (vp_in (((3 : Int32) * (fa3 (0 : Int32).toNatClampNeg)) - (2 : Int32)) na3 ∧ (False))))))) ∧ (∀ (n4 : Nat) (f5 : Nat → Int32), r28 = some (n4, f5) → (wp_X11_oneWay_ μ a2 (fun (r27 : Option AI) => (r27 = none → (vp_in (0 : Int32) na3 ∧ (vp_in (((3 : Int32) * (fa3 (0 : Int32).toNatClampNeg)) - (2 : Int32)) na3 ∧ (False)))) ∧ (∀ (n19 : Nat) (f20 : Nat → Int32), r27 = some (n19, f20) → (vp_in (0 : Int32) na3 ∧ (vp_in (((3 : Int32) * (fa3 (0 : Int32).toNatClampNeg)) - (2 : Int32)) na3 ∧ (wp_X11_isUnlike n4 f5 n19 f20 (fa3 (((3 : Int32) * (fa3 (0 : Int32).toNatClampNeg)) - (2 : Int32)).toNatClampNeg) (fun (r25 : Int32) => isB r25 ∧ (Q r25))))))))))
set_option maxHeartbeats 4000000 in
set_option maxRecDepth 100000 in
theorem c_X11_isApart {l : Launch} {D : va_G} {ad : Nat → Nat} {cI cL : ClassId} (qa3 : Nat) (μ : TMem) (sz : Nat) (a1 : Int32) (a2 : Int32) (na3 : Nat) (fa3 : Nat → Int32)  {Q : Int32 → Prop} (h : wp_X11_isApart μ a1 a2 na3 fa3 Q) : MMi l yX11_isApart (.code yX11_isApart cX11_isApart 4 (Option.some Jvm.ClassFile.FieldType.boolean)) 3 8 618 [.ref (ad 0), .int a1, .int a2, .ref qa3] D ad cI cL sz μ [eI cI qa3 na3 fa3] (fun r μ1 => μ1 = μ ∧ Q r) := by
  refine M_meti (by decide +kernel) (Nat.le_of_ble_eq_true rfl) ?_
  intro p e s m below meth c Z ls hx hb hml hown ht hK hP0 hI hne hw hret hl
  have hl : lv_has ls 4 [(0, .ref (ad 0)), (1, .int a1), (2, .int a2), (3, .ref qa3)] := hl
  have hL0 := va_Ph hP0
  have hB0 : ¬ MA ad s.heap.size qa3 := fun z => z.elim (fun ⟨k, hk, e⟩ => hne 0 _ rfl k hk e) (fun z => absurd hL0.lt (Nat.not_lt.mpr z))
  suffices hh : ∀ (H : Heap) (locs : List Loc), MW D (MR ad cI μ) [] (MA ad s.heap.size) s H locs → W p l e (RA 3 8 618) s m #[.ref (ad 0), .int a1, .int a2, .ref qa3] below meth c H locs 0 0 Z (F0 m 0 ls []) from hh _ _ hw
  intro H locs hw
  change wp_X11_oneWay_ μ a1 (fun (r28 : Option AI) => (r28 = none → (wp_X11_oneWay_ μ a2 (fun (r15 : Option AI) => (r15 = none → (vp_in (0 : Int32) na3 ∧ (vp_in (((3 : Int32) * (fa3 (0 : Int32).toNatClampNeg)) - (2 : Int32)) na3 ∧ (False)))) ∧ (∀ (n9 : Nat) (f10 : Nat → Int32), r15 = some (n9, f10) → (vp_in (0 : Int32) na3 ∧ (vp_in (((3 : Int32) * (fa3 (0 : Int32).toNatClampNeg)) - (2 : Int32)) na3 ∧ (False))))))) ∧ (∀ (n4 : Nat) (f5 : Nat → Int32), r28 = some (n4, f5) → (wp_X11_oneWay_ μ a2 (fun (r27 : Option AI) => (r27 = none → (vp_in (0 : Int32) na3 ∧ (vp_in (((3 : Int32) * (fa3 (0 : Int32).toNatClampNeg)) - (2 : Int32)) na3 ∧ (False)))) ∧ (∀ (n19 : Nat) (f20 : Nat → Int32), r27 = some (n19, f20) → (vp_in (0 : Int32) na3 ∧ (vp_in (((3 : Int32) * (fa3 (0 : Int32).toNatClampNeg)) - (2 : Int32)) na3 ∧ (wp_X11_isUnlike n4 f5 n19 f20 (fa3 (((3 : Int32) * (fa3 (0 : Int32).toNatClampNeg)) - (2 : Int32)).toNatClampNeg) (fun (r25 : Int32) => isB r25 ∧ (Q r25)))))))))) at h
  refine lv_aload_n hx hb dX11_isApart_0 rfl (lv_at hl 0 rfl) ?_
  refine lv_iload_n hx hb dX11_isApart_1 rfl (lv_at hl 1 rfl) ?_
  refine M_callA hw (MA.up hw.2.2.1.1) (va_runV (own := "LeastreaderModel") (As := [.int a1]) (rest := []) ⟨hx, hb, hml, hown, ht⟩ (c_X11_oneWay_ μ H.size a1 h) (cwV 1 ht (G_V q_1456 q_1458 q_37 q_56 q_1459) rfl rfl rfl ⟨rfl, hd_86⟩ ⟨Nat.le_of_ble_eq_true rfl, Nat.le_of_ble_eq_true rfl⟩) ⟨MB.blind, M_recv hK hw, MB.pre hK hI hw va_P0 ne0⟩ rfl rfl hl.1 rfl (lv_room (Nat.le_of_ble_eq_true rfl)) dX11_isApart_2 ⟨show 0 + 4 ≤ 8 by omega, show 0 + 309 ≤ 618 by omega⟩) (fun μ1 H locs h hw => ?_) (fun q3 n4 f5 μ1 H locs hq3 h hw => ?_)
  · skip
    obtain ⟨e2, h⟩ := h
    rw [e2] at hw
    have h := h.1 rfl
    refine lv_aload_n hx hb dX11_isApart_5 rfl (lv_at hl 0 rfl) ?_
    refine lv_iload_n hx hb dX11_isApart_6 rfl (lv_at hl 2 rfl) ?_
    refine M_callA hw (MA.up hw.2.2.1.1) (va_runV (own := "LeastreaderModel") (As := [.int a2]) (rest := [.null]) ⟨hx, hb, hml, hown, ht⟩ (c_X11_oneWay_ μ H.size a2 h) (cwV 1 ht (G_V q_1456 q_1458 q_37 q_56 q_1459) rfl rfl rfl ⟨rfl, hd_86⟩ ⟨Nat.le_of_ble_eq_true rfl, Nat.le_of_ble_eq_true rfl⟩) ⟨MB.blind, M_recv hK hw, MB.pre hK hI hw va_P0 ne0⟩ rfl rfl hl.1 rfl (lv_room (Nat.le_of_ble_eq_true rfl)) dX11_isApart_7 ⟨show 4 + 4 ≤ 8 by omega, show 309 + 309 ≤ 618 by omega⟩) (fun μ6 H locs h hw => ?_) (fun q8 n9 f10 μ6 H locs hq8 h hw => ?_)
    · skip
      obtain ⟨e7, h⟩ := h
      rw [e7] at hw
      have h := h.1 rfl
      refine lv_aload_n hx hb dX11_isApart_10 rfl (lv_at hl 3 rfl) ?_
      refine lv_iconst (v := (3 : Int32)) hx hb dX11_isApart_11 (by decide) ?_
      refine lv_aload_n hx hb dX11_isApart_12 rfl (lv_at hl 3 rfl) ?_
      refine lv_iconst (v := (0 : Int32)) hx hb dX11_isApart_13 (by decide) ?_
      obtain ⟨z11, h⟩ := h
      refine n_iald hx hb hK (hw.arg hL0 hB0) z11 dX11_isApart_14 ?_
      refine lv_imul hx hb dX11_isApart_15 ?_
      refine lv_iconst (v := (2 : Int32)) hx hb dX11_isApart_16 (by decide) ?_
      refine lv_isub hx hb dX11_isApart_17 ?_
      obtain ⟨z12, h⟩ := h
      refine n_iald hx hb hK (hw.arg hL0 hB0) z12 dX11_isApart_18 ?_
      exact False.elim h
    obtain ⟨e7, h⟩ := h
    rw [e7] at hw
    have h := h.2 _ _ rfl
    have hw : MW D (MR ad cI μ) [eI cI q8 n9 f10] (MA ad s.heap.size) s H locs := hw
    refine lv_aload_n hx hb dX11_isApart_10 rfl (lv_at hl 3 rfl) ?_
    refine lv_iconst (v := (3 : Int32)) hx hb dX11_isApart_11 (by decide) ?_
    refine lv_aload_n hx hb dX11_isApart_12 rfl (lv_at hl 3 rfl) ?_
    refine lv_iconst (v := (0 : Int32)) hx hb dX11_isApart_13 (by decide) ?_
    obtain ⟨z13, h⟩ := h
    refine n_iald hx hb hK (hw.arg hL0 hB0) z13 dX11_isApart_14 ?_
    refine lv_imul hx hb dX11_isApart_15 ?_
    refine lv_iconst (v := (2 : Int32)) hx hb dX11_isApart_16 (by decide) ?_
    refine lv_isub hx hb dX11_isApart_17 ?_
    obtain ⟨z14, h⟩ := h
    refine n_iald hx hb hK (hw.arg hL0 hB0) z14 dX11_isApart_18 ?_
    exact False.elim h
  obtain ⟨e2, h⟩ := h
  rw [e2] at hw
  have h := h.2 _ _ rfl
  have hw : MW D (MR ad cI μ) [eI cI q3 n4 f5] (MA ad s.heap.size) s H locs := hw
  refine lv_aload_n hx hb dX11_isApart_5 rfl (lv_at hl 0 rfl) ?_
  refine lv_iload_n hx hb dX11_isApart_6 rfl (lv_at hl 2 rfl) ?_
  refine M_callA hw (MA.up hw.2.2.1.1) (va_runV (own := "LeastreaderModel") (As := [.int a2]) (rest := [.ref q3]) ⟨hx, hb, hml, hown, ht⟩ (c_X11_oneWay_ μ H.size a2 h) (cwV 1 ht (G_V q_1456 q_1458 q_37 q_56 q_1459) rfl rfl rfl ⟨rfl, hd_86⟩ ⟨Nat.le_of_ble_eq_true rfl, Nat.le_of_ble_eq_true rfl⟩) ⟨MB.blind, M_recv hK hw, MB.pre hK hI hw va_P0 ne0⟩ rfl rfl hl.1 rfl (lv_room (Nat.le_of_ble_eq_true rfl)) dX11_isApart_7 ⟨show 4 + 4 ≤ 8 by omega, show 309 + 309 ≤ 618 by omega⟩) (fun μ16 H locs h hw => ?_) (fun q18 n19 f20 μ16 H locs hq18 h hw => ?_)
  · skip
    obtain ⟨e17, h⟩ := h
    rw [e17] at hw
    have h := h.1 rfl
    refine lv_aload_n hx hb dX11_isApart_10 rfl (lv_at hl 3 rfl) ?_
    refine lv_iconst (v := (3 : Int32)) hx hb dX11_isApart_11 (by decide) ?_
    refine lv_aload_n hx hb dX11_isApart_12 rfl (lv_at hl 3 rfl) ?_
    refine lv_iconst (v := (0 : Int32)) hx hb dX11_isApart_13 (by decide) ?_
    obtain ⟨z21, h⟩ := h
    refine n_iald hx hb hK (hw.arg hL0 hB0) z21 dX11_isApart_14 ?_
    refine lv_imul hx hb dX11_isApart_15 ?_
    refine lv_iconst (v := (2 : Int32)) hx hb dX11_isApart_16 (by decide) ?_
    refine lv_isub hx hb dX11_isApart_17 ?_
    obtain ⟨z22, h⟩ := h
    refine n_iald hx hb hK (hw.arg hL0 hB0) z22 dX11_isApart_18 ?_
    exact False.elim h
  obtain ⟨e17, h⟩ := h
  rw [e17] at hw
  have h := h.2 _ _ rfl
  have hw : MW D (MR ad cI μ) [eI cI q3 n4 f5, eI cI q18 n19 f20] (MA ad s.heap.size) s H locs := hw
  refine lv_aload_n hx hb dX11_isApart_10 rfl (lv_at hl 3 rfl) ?_
  refine lv_iconst (v := (3 : Int32)) hx hb dX11_isApart_11 (by decide) ?_
  refine lv_aload_n hx hb dX11_isApart_12 rfl (lv_at hl 3 rfl) ?_
  refine lv_iconst (v := (0 : Int32)) hx hb dX11_isApart_13 (by decide) ?_
  obtain ⟨z23, h⟩ := h
  refine n_iald hx hb hK (hw.arg hL0 hB0) z23 dX11_isApart_14 ?_
  refine lv_imul hx hb dX11_isApart_15 ?_
  refine lv_iconst (v := (2 : Int32)) hx hb dX11_isApart_16 (by decide) ?_
  refine lv_isub hx hb dX11_isApart_17 ?_
  obtain ⟨z24, h⟩ := h
  refine n_iald hx hb hK (hw.arg hL0 hB0) z24 dX11_isApart_18 ?_
  refine S_calli hw (va_runS (own := "LeastreaderModel") (As := [.ref q3, .ref q18, .int (fa3 (((3 : Int32) * (fa3 (0 : Int32).toNatClampNeg)) - (2 : Int32)).toNatClampNeg)]) (rest := []) ⟨hx, hb, hml, hown, ht⟩ (c_X11_isUnlike q3 q18 H.size n4 f5 n19 f20 (fa3 (((3 : Int32) * (fa3 (0 : Int32).toNatClampNeg)) - (2 : Int32)).toNatClampNeg) h) (va_cwS 3 ht (G_S q_1494 q_1495 q_56 q_1496) rfl rfl rfl hd_89 ⟨Nat.le_of_ble_eq_true rfl, Nat.le_of_ble_eq_true rfl⟩) ⟨SB.blind, SB.pre hK (va_Pc2 (hw.n (j := 0) rfl) (va_Pc2 (hw.n (j := 1) rfl) va_P0))⟩ rfl rfl hl.1 rfl (lv_room (Nat.le_of_ble_eq_true rfl)) dX11_isApart_19 ⟨show 8 + 0 ≤ 8 by omega, show 618 + 0 ≤ 618 by omega⟩) (fun r25 H locs h hw => ?_)
  obtain ⟨z26, h⟩ := h
  exact hret H locs ls 22 _ _ _ _ _ hw ⟨rfl, h⟩ (isB_n z26) (show 8 ≤ 8 by omega) (show 618 ≤ 618 by omega) dX11_isApart_22
def wpl_X11_both_221 (μ : TMem) (f16 : Nat → Int32) (n15 : Nat) (f19 : Nat → Int32) (n18 : Nat) (n28 : Nat) (f5 : Nat → Int32) (n4 : Nat) (v50 : Int32) (v51 : Int32) (v52 : Int32) (v53 : Int32) (v54 : Int32) (v55 : Int32) (K260 : (Nat → Int32) → Prop) : Nat → (Nat → Int32) → Prop
  | 0, _ => False
  | n + 1, f56 =>
    vp_in (((4 : Int32) * v54) + v51) n28 ∧ (vp_in (((3 : Int32) * (f56 (((4 : Int32) * v54) + v51).toNatClampNeg)) + (1 : Int32)) n18 ∧ (((f19 (((3 : Int32) * (f56 (((4 : Int32) * v54) + v51).toNatClampNeg)) + (1 : Int32)).toNatClampNeg) = v50 → (K260 f56)) ∧ (¬ (f19 (((3 : Int32) * (f56 (((4 : Int32) * v54) + v51).toNatClampNeg)) + (1 : Int32)).toNatClampNeg) = v50 → (vp_in (((4 : Int32) * v54) + v51) n28 ∧ (vp_in (((4 : Int32) * v54) + v51) n28 ∧ (wpl_X11_both_221 μ f16 n15 f19 n18 n28 f5 n4 v50 v51 v52 v53 v54 v55 K260 n (upd f56 (((4 : Int32) * v54) + v51).toNatClampNeg ((f56 (((4 : Int32) * v54) + v51).toNatClampNeg) + (1 : Int32)))))))))
def wpl_X11_both_189 (μ : TMem) (f16 : Nat → Int32) (n15 : Nat) (f19 : Nat → Int32) (n18 : Nat) (n28 : Nat) (f5 : Nat → Int32) (n4 : Nat) (v41 : Int32) (v42 : Int32) (v43 : Int32) (v44 : Int32) (K266 : (Nat → Int32) → Prop) : Nat → Int32 → (Nat → Int32) → Prop
  | 0, _, _ => False
  | n + 1, v40, f45 =>
    ((3 : Int32) ≤ v40 → (K266 f45)) ∧ (¬ (3 : Int32) ≤ v40 → (vp_in (((4 : Int32) * v42) + v40) n4 ∧ (vp_in (((4 : Int32) * v41) + v40) n15 ∧ (∃ n48x, wpl_X11_both_221 μ f16 n15 f19 n18 n28 f5 n4 (((f5 (((4 : Int32) * v42) + v40).toNatClampNeg) * (32 : Int32)) + (f16 (((4 : Int32) * v41) + v40).toNatClampNeg)) v40 v41 v42 v43 v44 (fun (f63 : Nat → Int32) => wpl_X11_both_189 μ f16 n15 f19 n18 n28 f5 n4 v41 v42 v43 v44 K266 n (v40 + (1 : Int32)) f63) n48x f45))))
def wpl_X11_both_62 (μ : TMem) (f16 : Nat → Int32) (n15 : Nat) (f19 : Nat → Int32) (n18 : Nat) (n28 : Nat) (f5 : Nat → Int32) (n4 : Nat) (v27 : Int32) (Q : Option AI → Prop) : Nat → Int32 → (Nat → Int32) → Prop
  | 0, _, _ => False
  | n + 1, v26, f29 =>
    vp_in (0 : Int32) n18 ∧ (((f19 (0 : Int32).toNatClampNeg) ≤ v26 → (Q (some (n28, f29)))) ∧ (¬ (f19 (0 : Int32).toNatClampNeg) ≤ v26 → (vp_in (((3 : Int32) * v26) + (1 : Int32)) n18 ∧ (vp_in (((3 : Int32) * v26) + (1 : Int32)) n18 ∧ (vp_in (((4 : Int32) * ((f19 (((3 : Int32) * v26) + (1 : Int32)).toNatClampNeg) / (32 : Int32))) + (3 : Int32)) n4 ∧ (vp_in (((4 : Int32) * ((f19 (((3 : Int32) * v26) + (1 : Int32)).toNatClampNeg) - (f19 (((3 : Int32) * v26) + (1 : Int32)).toNatClampNeg) / (32 : Int32) * (32 : Int32))) + (3 : Int32)) n15 ∧ (∀ J36 : Int32 → Prop, (∀ (j37 : Int32), (vp_in (((4 : Int32) * v26) + (3 : Int32)) n28 ∧ (∃ n38x, wpl_X11_both_189 μ f16 n15 f19 n18 n28 f5 n4 ((f19 (((3 : Int32) * v26) + (1 : Int32)).toNatClampNeg) - (f19 (((3 : Int32) * v26) + (1 : Int32)).toNatClampNeg) / (32 : Int32) * (32 : Int32)) ((f19 (((3 : Int32) * v26) + (1 : Int32)).toNatClampNeg) / (32 : Int32)) v26 v27 (fun (f65 : Nat → Int32) => wpl_X11_both_62 μ f16 n15 f19 n18 n28 f5 n4 v27 Q n (v26 + (1 : Int32)) f65) n38x (0 : Int32) (upd f29 (((4 : Int32) * v26) + (3 : Int32)).toNatClampNeg j37))) → J36 j37) → ((¬ v27 = 0 → ((¬ v27 = (1 : Int32) → ((¬ v27 = (2 : Int32) → ((¬ (f5 (((4 : Int32) * ((f19 (((3 : Int32) * v26) + (1 : Int32)).toNatClampNeg) / (32 : Int32))) + (3 : Int32)).toNatClampNeg) = (f16 (((4 : Int32) * ((f19 (((3 : Int32) * v26) + (1 : Int32)).toNatClampNeg) - (f19 (((3 : Int32) * v26) + (1 : Int32)).toNatClampNeg) / (32 : Int32) * (32 : Int32))) + (3 : Int32)).toNatClampNeg) → (J36 (1 : Int32))) ∧ ((f5 (((4 : Int32) * ((f19 (((3 : Int32) * v26) + (1 : Int32)).toNatClampNeg) / (32 : Int32))) + (3 : Int32)).toNatClampNeg) = (f16 (((4 : Int32) * ((f19 (((3 : Int32) * v26) + (1 : Int32)).toNatClampNeg) - (f19 (((3 : Int32) * v26) + (1 : Int32)).toNatClampNeg) / (32 : Int32) * (32 : Int32))) + (3 : Int32)).toNatClampNeg) → (J36 (0 : Int32))))) ∧ (v27 = (2 : Int32) → (J36 (if ((f5 (((4 : Int32) * ((f19 (((3 : Int32) * v26) + (1 : Int32)).toNatClampNeg) / (32 : Int32))) + (3 : Int32)).toNatClampNeg) - (f16 (((4 : Int32) * ((f19 (((3 : Int32) * v26) + (1 : Int32)).toNatClampNeg) - (f19 (((3 : Int32) * v26) + (1 : Int32)).toNatClampNeg) / (32 : Int32) * (32 : Int32))) + (3 : Int32)).toNatClampNeg)) < (0 : Int32) then (0 : Int32) else ((f5 (((4 : Int32) * ((f19 (((3 : Int32) * v26) + (1 : Int32)).toNatClampNeg) / (32 : Int32))) + (3 : Int32)).toNatClampNeg) - (f16 (((4 : Int32) * ((f19 (((3 : Int32) * v26) + (1 : Int32)).toNatClampNeg) - (f19 (((3 : Int32) * v26) + (1 : Int32)).toNatClampNeg) / (32 : Int32) * (32 : Int32))) + (3 : Int32)).toNatClampNeg))))))) ∧ (v27 = (1 : Int32) → (J36 ((f5 (((4 : Int32) * ((f19 (((3 : Int32) * v26) + (1 : Int32)).toNatClampNeg) / (32 : Int32))) + (3 : Int32)).toNatClampNeg) * (f16 (((4 : Int32) * ((f19 (((3 : Int32) * v26) + (1 : Int32)).toNatClampNeg) - (f19 (((3 : Int32) * v26) + (1 : Int32)).toNatClampNeg) / (32 : Int32) * (32 : Int32))) + (3 : Int32)).toNatClampNeg)))))) ∧ (v27 = 0 → (J36 (if (f5 (((4 : Int32) * ((f19 (((3 : Int32) * v26) + (1 : Int32)).toNatClampNeg) / (32 : Int32))) + (3 : Int32)).toNatClampNeg) < (f16 (((4 : Int32) * ((f19 (((3 : Int32) * v26) + (1 : Int32)).toNatClampNeg) - (f19 (((3 : Int32) * v26) + (1 : Int32)).toNatClampNeg) / (32 : Int32) * (32 : Int32))) + (3 : Int32)).toNatClampNeg) then (f16 (((4 : Int32) * ((f19 (((3 : Int32) * v26) + (1 : Int32)).toNatClampNeg) - (f19 (((3 : Int32) * v26) + (1 : Int32)).toNatClampNeg) / (32 : Int32) * (32 : Int32))) + (3 : Int32)).toNatClampNeg) else (f5 (((4 : Int32) * ((f19 (((3 : Int32) * v26) + (1 : Int32)).toNatClampNeg) / (32 : Int32))) + (3 : Int32)).toNatClampNeg))))))))))))
def wp_X11_both (μ : TMem) (a1 : Int32) (a2 : Int32) (a3 : Int32) (Q : Option AI → Prop) : Prop :=
  wp_X11_oneWay_ μ a1 (fun (r72 : Option AI) => (r72 = none → (wp_X11_oneWay_ μ a2 (fun (r11 : Option AI) => (r11 = none → (Q none)) ∧ (∀ (n9 : Nat) (f10 : Nat → Int32), r11 = some (n9, f10) → (Q none))))) ∧ (∀ (n4 : Nat) (f5 : Nat → Int32), r72 = some (n4, f5) → (wp_X11_oneWay_ μ a2 (fun (r71 : Option AI) => (r71 = none → (Q none)) ∧ (∀ (n15 : Nat) (f16 : Nat → Int32), r71 = some (n15, f16) → (wp_X11_met n4 f5 n15 f16 (32 : Int32) (0 : Int32) (fun (n18 : Nat) (f19 : Nat → Int32) => vp_in (0 : Int32) n18 ∧ (((f19 (0 : Int32).toNatClampNeg) ≤ (32 : Int32) → (vp_in (0 : Int32) n18 ∧ ((¬ ((4 : Int32) * (f19 (0 : Int32).toNatClampNeg)) < 0 ∧ ((4 : Int32) * (f19 (0 : Int32).toNatClampNeg)).toNatClampNeg ≤ 128) ∧ (∃ n24x, wpl_X11_both_62 μ f16 n15 f19 n18 (((4 : Int32) * (f19 (0 : Int32).toNatClampNeg)).toNatClampNeg) f5 n4 a3 Q n24x (0 : Int32) (fun _ => 0))))) ∧ (¬ (f19 (0 : Int32).toNatClampNeg) ≤ (32 : Int32) → (Q none))))))))))
set_option maxHeartbeats 4000000 in
set_option maxRecDepth 100000 in
theorem c_X11_both {l : Launch} {D : va_G} {ad : Nat → Nat} {cI cL : ClassId}  (μ : TMem) (sz : Nat) (a1 : Int32) (a2 : Int32) (a3 : Int32)  {Q : Option AI → Prop} (h : wp_X11_both μ a1 a2 a3 Q) : MMA l yX11_both (.code yX11_both cX11_both 15 (Option.some (Jvm.ClassFile.FieldType.array Jvm.ClassFile.FieldType.int))) 3 10 1350 [.ref (ad 0), .int a1, .int a2, .int a3] D ad cI cL sz μ [] (fun o μ1 => μ1 = μ ∧ Q o) := by
  refine M_metA (by decide +kernel) (Nat.le_of_ble_eq_true rfl) ?_
  intro p e s m below meth c Z ls hx hb hml hown ht hK hP0 hI hne hw hret hretN hl
  have hl : lv_has ls 15 [(0, .ref (ad 0)), (1, .int a1), (2, .int a2), (3, .int a3)] := hl
  suffices hh : ∀ (H : Heap) (locs : List Loc), MW D (MR ad cI μ) [] (MA ad s.heap.size) s H locs → W p l e (RA 3 10 1350) s m #[.ref (ad 0), .int a1, .int a2, .int a3] below meth c H locs 0 0 Z (F0 m 0 ls []) from hh _ _ hw
  intro H locs hw
  change wp_X11_oneWay_ μ a1 (fun (r72 : Option AI) => (r72 = none → (wp_X11_oneWay_ μ a2 (fun (r11 : Option AI) => (r11 = none → (Q none)) ∧ (∀ (n9 : Nat) (f10 : Nat → Int32), r11 = some (n9, f10) → (Q none))))) ∧ (∀ (n4 : Nat) (f5 : Nat → Int32), r72 = some (n4, f5) → (wp_X11_oneWay_ μ a2 (fun (r71 : Option AI) => (r71 = none → (Q none)) ∧ (∀ (n15 : Nat) (f16 : Nat → Int32), r71 = some (n15, f16) → (wp_X11_met n4 f5 n15 f16 (32 : Int32) (0 : Int32) (fun (n18 : Nat) (f19 : Nat → Int32) => vp_in (0 : Int32) n18 ∧ (((f19 (0 : Int32).toNatClampNeg) ≤ (32 : Int32) → (vp_in (0 : Int32) n18 ∧ ((¬ ((4 : Int32) * (f19 (0 : Int32).toNatClampNeg)) < 0 ∧ ((4 : Int32) * (f19 (0 : Int32).toNatClampNeg)).toNatClampNeg ≤ 128) ∧ (∃ n24x, wpl_X11_both_62 μ f16 n15 f19 n18 (((4 : Int32) * (f19 (0 : Int32).toNatClampNeg)).toNatClampNeg) f5 n4 a3 Q n24x (0 : Int32) (fun _ => 0))))) ∧ (¬ (f19 (0 : Int32).toNatClampNeg) ≤ (32 : Int32) → (Q none)))))))))) at h
  refine lv_aload_n hx hb dX11_both_0 rfl (lv_at hl 0 rfl) ?_
  refine lv_iload_n hx hb dX11_both_1 rfl (lv_at hl 1 rfl) ?_
  refine M_callA hw (MA.up hw.2.2.1.1) (va_runV (own := "LeastreaderModel") (As := [.int a1]) (rest := []) ⟨hx, hb, hml, hown, ht⟩ (c_X11_oneWay_ μ H.size a1 h) (cwV 1 ht (G_V q_1456 q_1458 q_37 q_56 q_1459) rfl rfl rfl ⟨rfl, hd_86⟩ ⟨Nat.le_of_ble_eq_true rfl, Nat.le_of_ble_eq_true rfl⟩) ⟨MB.blind, M_recv hK hw, MB.pre hK hI hw va_P0 ne0⟩ rfl rfl hl.1 rfl (lv_room (Nat.le_of_ble_eq_true rfl)) dX11_both_2 ⟨show 0 + 4 ≤ 10 by omega, show 0 + 309 ≤ 1350 by omega⟩) (fun μ1 H locs h hw => ?_) (fun q3 n4 f5 μ1 H locs hq3 h hw => ?_)
  · skip
    obtain ⟨e2, h⟩ := h
    rw [e2] at hw
    have h := h.1 rfl
    refine lv_astoreN (lv' := [(4, .null), (0, .ref (ad 0)), (1, .int a1), (2, .int a2), (3, .int a3)]) hx hb dX11_both_5 hl (by decide) rfl (fun ls hl => ?_)
    refine lv_aload_n hx hb dX11_both_7 rfl (lv_at hl 1 rfl) ?_
    refine lv_iload_n hx hb dX11_both_8 rfl (lv_at hl 3 rfl) ?_
    refine M_callA hw (MA.up hw.2.2.1.1) (va_runV (own := "LeastreaderModel") (As := [.int a2]) (rest := []) ⟨hx, hb, hml, hown, ht⟩ (c_X11_oneWay_ μ H.size a2 h) (cwV 1 ht (G_V q_1456 q_1458 q_37 q_56 q_1459) rfl rfl rfl ⟨rfl, hd_86⟩ ⟨Nat.le_of_ble_eq_true rfl, Nat.le_of_ble_eq_true rfl⟩) ⟨MB.blind, M_recv hK hw, MB.pre hK hI hw va_P0 ne0⟩ rfl rfl hl.1 rfl (lv_room (Nat.le_of_ble_eq_true rfl)) dX11_both_9 ⟨show 4 + 4 ≤ 10 by omega, show 309 + 309 ≤ 1350 by omega⟩) (fun μ6 H locs h hw => ?_) (fun q8 n9 f10 μ6 H locs hq8 h hw => ?_)
    · skip
      obtain ⟨e7, h⟩ := h
      rw [e7] at hw
      have h := h.1 rfl
      refine lv_astoreN (lv' := [(5, .null), (4, .null), (0, .ref (ad 0)), (1, .int a1), (2, .int a2), (3, .int a3)]) hx hb dX11_both_12 hl (by decide) rfl (fun ls hl => ?_)
      refine lv_aloadN hx hb dX11_both_14 (lv_at hl 1 rfl) ?_
      refine lv_ifnullN (tgt := 24) hx hb dX11_both_16 (by decide) ?_
      refine lv_null hx hb dX11_both_24 ?_
      exact hretN H locs ls 25 _ _ _ _ hw ⟨rfl, h⟩ (show 8 ≤ 10 by omega) (show 618 ≤ 1350 by omega) dX11_both_25
    obtain ⟨e7, h⟩ := h
    rw [e7] at hw
    have h := h.2 _ _ rfl
    have hw : MW D (MR ad cI μ) [eI cI q8 n9 f10] (MA ad s.heap.size) s H locs := hw
    refine lv_astore (lv' := [(5, .ref q8), (4, .null), (0, .ref (ad 0)), (1, .int a1), (2, .int a2), (3, .int a3)]) hx hb dX11_both_12 hl (by decide) rfl (fun ls hl => ?_)
    refine lv_aloadN hx hb dX11_both_14 (lv_at hl 1 rfl) ?_
    refine lv_ifnullN (tgt := 24) hx hb dX11_both_16 (by decide) ?_
    refine lv_null hx hb dX11_both_24 ?_
    exact hretN H locs ls 25 _ _ _ _ hw ⟨rfl, h⟩ (show 8 ≤ 10 by omega) (show 618 ≤ 1350 by omega) dX11_both_25
  obtain ⟨e2, h⟩ := h
  rw [e2] at hw
  have h := h.2 _ _ rfl
  have hw : MW D (MR ad cI μ) [eI cI q3 n4 f5] (MA ad s.heap.size) s H locs := hw
  refine lv_astore (lv' := [(4, .ref q3), (0, .ref (ad 0)), (1, .int a1), (2, .int a2), (3, .int a3)]) hx hb dX11_both_5 hl (by decide) rfl (fun ls hl => ?_)
  refine lv_aload_n hx hb dX11_both_7 rfl (lv_at hl 1 rfl) ?_
  refine lv_iload_n hx hb dX11_both_8 rfl (lv_at hl 3 rfl) ?_
  refine M_callA hw (MA.up hw.2.2.1.1) (va_runV (own := "LeastreaderModel") (As := [.int a2]) (rest := []) ⟨hx, hb, hml, hown, ht⟩ (c_X11_oneWay_ μ H.size a2 h) (cwV 1 ht (G_V q_1456 q_1458 q_37 q_56 q_1459) rfl rfl rfl ⟨rfl, hd_86⟩ ⟨Nat.le_of_ble_eq_true rfl, Nat.le_of_ble_eq_true rfl⟩) ⟨MB.blind, M_recv hK hw, MB.pre hK hI hw va_P0 ne0⟩ rfl rfl hl.1 rfl (lv_room (Nat.le_of_ble_eq_true rfl)) dX11_both_9 ⟨show 4 + 4 ≤ 10 by omega, show 309 + 309 ≤ 1350 by omega⟩) (fun μ12 H locs h hw => ?_) (fun q14 n15 f16 μ12 H locs hq14 h hw => ?_)
  · skip
    obtain ⟨e13, h⟩ := h
    rw [e13] at hw
    have h := h.1 rfl
    refine lv_astoreN (lv' := [(5, .null), (4, .ref q3), (0, .ref (ad 0)), (1, .int a1), (2, .int a2), (3, .int a3)]) hx hb dX11_both_12 hl (by decide) rfl (fun ls hl => ?_)
    refine lv_aload hx hb dX11_both_14 (lv_at hl 1 rfl) ?_
    refine lv_ifnull hx hb dX11_both_16 ?_
    refine lv_aloadN hx hb dX11_both_19 (lv_at hl 0 rfl) ?_
    refine lv_ifnonnullN hx hb dX11_both_21 ?_
    refine lv_null hx hb dX11_both_24 ?_
    exact hretN H locs ls 25 _ _ _ _ hw ⟨rfl, h⟩ (show 8 ≤ 10 by omega) (show 618 ≤ 1350 by omega) dX11_both_25
  obtain ⟨e13, h⟩ := h
  rw [e13] at hw
  have h := h.2 _ _ rfl
  have hw : MW D (MR ad cI μ) [eI cI q3 n4 f5, eI cI q14 n15 f16] (MA ad s.heap.size) s H locs := hw
  refine lv_astore (lv' := [(5, .ref q14), (4, .ref q3), (0, .ref (ad 0)), (1, .int a1), (2, .int a2), (3, .int a3)]) hx hb dX11_both_12 hl (by decide) rfl (fun ls hl => ?_)
  refine lv_aload hx hb dX11_both_14 (lv_at hl 1 rfl) ?_
  refine lv_ifnull hx hb dX11_both_16 ?_
  refine lv_aload hx hb dX11_both_19 (lv_at hl 0 rfl) ?_
  refine lv_ifnonnull (tgt := 26) hx hb dX11_both_21 (by decide) ?_
  refine lv_aload hx hb dX11_both_26 (lv_at hl 1 rfl) ?_
  refine lv_aload hx hb dX11_both_28 (lv_at hl 0 rfl) ?_
  refine lv_bipush (v := (32 : Int32)) hx hb dX11_both_30 (by decide) ?_
  refine lv_iconst (v := (0 : Int32)) hx hb dX11_both_32 (by decide) ?_
  refine S_callA hw (va_runS (own := "LeastreaderModel") (As := [.ref q3, .ref q14, .int (32 : Int32), .int (0 : Int32)]) (rest := []) ⟨hx, hb, hml, hown, ht⟩ (c_X11_met q3 q14 H.size n4 f5 n15 f16 (32 : Int32) (0 : Int32) h) (va_cwS 4 ht (G_S q_1491 q_1492 q_56 q_1493) rfl rfl rfl hd_90 ⟨Nat.le_of_ble_eq_true rfl, Nat.le_of_ble_eq_true rfl⟩) ⟨SB.blind, SB.pre hK (va_Pc2 (hw.n (j := 0) rfl) (va_Pc2 (hw.n (j := 1) rfl) va_P0))⟩ rfl rfl hl.1 rfl (lv_room (Nat.le_of_ble_eq_true rfl)) dX11_both_33 ⟨show 8 + 1 ≤ 10 by omega, show 618 + 604 ≤ 1350 by omega⟩) (fun _ _ h _ => by obtain ⟨_, _, h, _⟩ := h; cases h) (fun q17 n18 f19 H locs hq17 h hw => ?_)
  obtain ⟨_, _, e9, h⟩ := h
  cases e9
  have hw : MW D (MR ad cI μ) [eI cI q3 n4 f5, eI cI q14 n15 f16, eI cI q17 n18 f19] (MA ad s.heap.size) s H locs := hw
  refine lv_astore (lv' := [(6, .ref q17), (5, .ref q14), (4, .ref q3), (0, .ref (ad 0)), (1, .int a1), (2, .int a2), (3, .int a3)]) hx hb dX11_both_36 hl (by decide) rfl (fun ls hl => ?_)
  refine lv_aload hx hb dX11_both_38 (lv_at hl 0 rfl) ?_
  refine lv_iconst (v := (0 : Int32)) hx hb dX11_both_40 (by decide) ?_
  obtain ⟨z20, h⟩ := h
  refine n_iald hx hb hK (hw.n (j := 2) rfl) z20 dX11_both_41 ?_
  refine lv_bipush (v := (32 : Int32)) hx hb dX11_both_42 (by decide) ?_
  refine lv_icmp_le (tgt := 49) hx hb dX11_both_44 (by decide) (fun c21 => ?_) (fun c21 => ?_)
  · have h := h.1 c21
    refine lv_iconst (v := (4 : Int32)) hx hb dX11_both_49 (by decide) ?_
    refine lv_aload hx hb dX11_both_50 (lv_at hl 0 rfl) ?_
    refine lv_iconst (v := (0 : Int32)) hx hb dX11_both_52 (by decide) ?_
    obtain ⟨z22, h⟩ := h
    refine n_iald hx hb hK (hw.n (j := 2) rfl) z22 dX11_both_53 ?_
    refine lv_imul hx hb dX11_both_54 ?_
    obtain ⟨z23, h⟩ := h
    refine n_newI (B := 128) hx hb ht q_128 hK hw z23 (by decide) (show 9 + 1 ≤ 10 by omega) (show 1222 + 128 ≤ 1350 by omega) dX11_both_55 (fun q24 H hq24 hw => ?_)
    have hw : MW D (MR ad cI μ) [eI cI q3 n4 f5, eI cI q14 n15 f16, eI cI q17 n18 f19, eI cI q24 (((4 : Int32) * (f19 (0 : Int32).toNatClampNeg)).toNatClampNeg) (fun _ => 0)] (MA ad s.heap.size) s H locs := hw
    refine lv_astore (lv' := [(7, .ref q24), (6, .ref q17), (5, .ref q14), (4, .ref q3), (0, .ref (ad 0)), (1, .int a1), (2, .int a2), (3, .int a3)]) hx hb dX11_both_57 hl (by decide) rfl (fun ls hl => ?_)
    refine lv_iconst (v := (0 : Int32)) hx hb dX11_both_59 (by decide) ?_
    refine lv_istore (lv' := [(8, .int (0 : Int32)), (7, .ref q24), (6, .ref q17), (5, .ref q14), (4, .ref q3), (0, .ref (ad 0)), (1, .int a1), (2, .int a2), (3, .int a3)]) hx hb dX11_both_60 hl (by decide) rfl (fun ls hl => ?_)
    obtain ⟨n70, h⟩ := h
    have L24 : ∀ (n28 : Nat) (v27 : Int32), ∀ (n : Nat), ∀ (v26 : Int32) (f29 : Nat → Int32), ∀ (H : Heap) (locs : List Loc) (ls : Array Slot), MW D (MR ad cI μ) [eI cI q3 n4 f5, eI cI q14 n15 f16, eI cI q17 n18 f19, eI cI q24 n28 f29] (MA ad s.heap.size) s H locs → lv_has ls 15 [(8, .int v26), (7, .ref q24), (6, .ref q17), (5, .ref q14), (4, .ref q3), (3, .int v27)] → wpl_X11_both_62 μ f16 n15 f19 n18 n28 f5 n4 v27 Q n v26 f29 → W p l e (RA 3 10 1350) s m #[.ref (ad 0), .int a1, .int a2, .int a3] below meth c H locs 10 1350 Z (F0 m 62 ls []) := by
      intro n28 v27
      intro n
      induction n with
      | zero => intro v26 f29 H locs ls hw hl h; exact False.elim h
      | succ n ih24 =>
        intro v26 f29 H locs ls hw hl h
        change vp_in (0 : Int32) n18 ∧ (((f19 (0 : Int32).toNatClampNeg) ≤ v26 → (Q (some (n28, f29)))) ∧ (¬ (f19 (0 : Int32).toNatClampNeg) ≤ v26 → (vp_in (((3 : Int32) * v26) + (1 : Int32)) n18 ∧ (vp_in (((3 : Int32) * v26) + (1 : Int32)) n18 ∧ (vp_in (((4 : Int32) * ((f19 (((3 : Int32) * v26) + (1 : Int32)).toNatClampNeg) / (32 : Int32))) + (3 : Int32)) n4 ∧ (vp_in (((4 : Int32) * ((f19 (((3 : Int32) * v26) + (1 : Int32)).toNatClampNeg) - (f19 (((3 : Int32) * v26) + (1 : Int32)).toNatClampNeg) / (32 : Int32) * (32 : Int32))) + (3 : Int32)) n15 ∧ (∀ J36 : Int32 → Prop, (∀ (j37 : Int32), (vp_in (((4 : Int32) * v26) + (3 : Int32)) n28 ∧ (∃ n38x, wpl_X11_both_189 μ f16 n15 f19 n18 n28 f5 n4 ((f19 (((3 : Int32) * v26) + (1 : Int32)).toNatClampNeg) - (f19 (((3 : Int32) * v26) + (1 : Int32)).toNatClampNeg) / (32 : Int32) * (32 : Int32)) ((f19 (((3 : Int32) * v26) + (1 : Int32)).toNatClampNeg) / (32 : Int32)) v26 v27 (fun (f65 : Nat → Int32) => wpl_X11_both_62 μ f16 n15 f19 n18 n28 f5 n4 v27 Q n (v26 + (1 : Int32)) f65) n38x (0 : Int32) (upd f29 (((4 : Int32) * v26) + (3 : Int32)).toNatClampNeg j37))) → J36 j37) → ((¬ v27 = 0 → ((¬ v27 = (1 : Int32) → ((¬ v27 = (2 : Int32) → ((¬ (f5 (((4 : Int32) * ((f19 (((3 : Int32) * v26) + (1 : Int32)).toNatClampNeg) / (32 : Int32))) + (3 : Int32)).toNatClampNeg) = (f16 (((4 : Int32) * ((f19 (((3 : Int32) * v26) + (1 : Int32)).toNatClampNeg) - (f19 (((3 : Int32) * v26) + (1 : Int32)).toNatClampNeg) / (32 : Int32) * (32 : Int32))) + (3 : Int32)).toNatClampNeg) → (J36 (1 : Int32))) ∧ ((f5 (((4 : Int32) * ((f19 (((3 : Int32) * v26) + (1 : Int32)).toNatClampNeg) / (32 : Int32))) + (3 : Int32)).toNatClampNeg) = (f16 (((4 : Int32) * ((f19 (((3 : Int32) * v26) + (1 : Int32)).toNatClampNeg) - (f19 (((3 : Int32) * v26) + (1 : Int32)).toNatClampNeg) / (32 : Int32) * (32 : Int32))) + (3 : Int32)).toNatClampNeg) → (J36 (0 : Int32))))) ∧ (v27 = (2 : Int32) → (J36 (if ((f5 (((4 : Int32) * ((f19 (((3 : Int32) * v26) + (1 : Int32)).toNatClampNeg) / (32 : Int32))) + (3 : Int32)).toNatClampNeg) - (f16 (((4 : Int32) * ((f19 (((3 : Int32) * v26) + (1 : Int32)).toNatClampNeg) - (f19 (((3 : Int32) * v26) + (1 : Int32)).toNatClampNeg) / (32 : Int32) * (32 : Int32))) + (3 : Int32)).toNatClampNeg)) < (0 : Int32) then (0 : Int32) else ((f5 (((4 : Int32) * ((f19 (((3 : Int32) * v26) + (1 : Int32)).toNatClampNeg) / (32 : Int32))) + (3 : Int32)).toNatClampNeg) - (f16 (((4 : Int32) * ((f19 (((3 : Int32) * v26) + (1 : Int32)).toNatClampNeg) - (f19 (((3 : Int32) * v26) + (1 : Int32)).toNatClampNeg) / (32 : Int32) * (32 : Int32))) + (3 : Int32)).toNatClampNeg))))))) ∧ (v27 = (1 : Int32) → (J36 ((f5 (((4 : Int32) * ((f19 (((3 : Int32) * v26) + (1 : Int32)).toNatClampNeg) / (32 : Int32))) + (3 : Int32)).toNatClampNeg) * (f16 (((4 : Int32) * ((f19 (((3 : Int32) * v26) + (1 : Int32)).toNatClampNeg) - (f19 (((3 : Int32) * v26) + (1 : Int32)).toNatClampNeg) / (32 : Int32) * (32 : Int32))) + (3 : Int32)).toNatClampNeg)))))) ∧ (v27 = 0 → (J36 (if (f5 (((4 : Int32) * ((f19 (((3 : Int32) * v26) + (1 : Int32)).toNatClampNeg) / (32 : Int32))) + (3 : Int32)).toNatClampNeg) < (f16 (((4 : Int32) * ((f19 (((3 : Int32) * v26) + (1 : Int32)).toNatClampNeg) - (f19 (((3 : Int32) * v26) + (1 : Int32)).toNatClampNeg) / (32 : Int32) * (32 : Int32))) + (3 : Int32)).toNatClampNeg) then (f16 (((4 : Int32) * ((f19 (((3 : Int32) * v26) + (1 : Int32)).toNatClampNeg) - (f19 (((3 : Int32) * v26) + (1 : Int32)).toNatClampNeg) / (32 : Int32) * (32 : Int32))) + (3 : Int32)).toNatClampNeg) else (f5 (((4 : Int32) * ((f19 (((3 : Int32) * v26) + (1 : Int32)).toNatClampNeg) / (32 : Int32))) + (3 : Int32)).toNatClampNeg)))))))))))) at h
        refine lv_iload hx hb dX11_both_62 (lv_at hl 0 rfl) ?_
        refine lv_aload hx hb dX11_both_64 (lv_at hl 2 rfl) ?_
        refine lv_iconst (v := (0 : Int32)) hx hb dX11_both_66 (by decide) ?_
        obtain ⟨z30, h⟩ := h
        refine n_iald hx hb hK (hw.n (j := 2) rfl) z30 dX11_both_67 ?_
        refine lv_icmp_ge (tgt := 272) hx hb dX11_both_68 (by decide) (fun c31 => ?_) (fun c31 => ?_)
        · have h := h.1 c31
          refine lv_aload hx hb dX11_both_272 (lv_at hl 1 rfl) ?_
          exact hret H locs ls 274 _ _ _ 3 _ _ _ _ hw rfl hq24 ⟨rfl, h⟩ (show 10 ≤ 10 by omega) (show 1350 ≤ 1350 by omega) dX11_both_274
        have h := h.2 c31
        refine lv_aload hx hb dX11_both_71 (lv_at hl 2 rfl) ?_
        refine lv_iconst (v := (3 : Int32)) hx hb dX11_both_73 (by decide) ?_
        refine lv_iload hx hb dX11_both_74 (lv_at hl 0 rfl) ?_
        refine lv_imul hx hb dX11_both_76 ?_
        refine lv_iconst (v := (1 : Int32)) hx hb dX11_both_77 (by decide) ?_
        refine lv_iadd hx hb dX11_both_78 ?_
        obtain ⟨z32, h⟩ := h
        refine n_iald hx hb hK (hw.n (j := 2) rfl) z32 dX11_both_79 ?_
        refine lv_bipush (v := (32 : Int32)) hx hb dX11_both_80 (by decide) ?_
        refine lv_idiv hx hb dX11_both_82 (by decide) ?_
        refine lv_istore (lv' := [(9, .int ((f19 (((3 : Int32) * v26) + (1 : Int32)).toNatClampNeg) / (32 : Int32))), (8, .int v26), (7, .ref q24), (6, .ref q17), (5, .ref q14), (4, .ref q3), (3, .int v27)]) hx hb dX11_both_83 hl (by decide) rfl (fun ls hl => ?_)
        refine lv_aload hx hb dX11_both_85 (lv_at hl 3 rfl) ?_
        refine lv_iconst (v := (3 : Int32)) hx hb dX11_both_87 (by decide) ?_
        refine lv_iload hx hb dX11_both_88 (lv_at hl 1 rfl) ?_
        refine lv_imul hx hb dX11_both_90 ?_
        refine lv_iconst (v := (1 : Int32)) hx hb dX11_both_91 (by decide) ?_
        refine lv_iadd hx hb dX11_both_92 ?_
        obtain ⟨z33, h⟩ := h
        refine n_iald hx hb hK (hw.n (j := 2) rfl) z33 dX11_both_93 ?_
        refine lv_bipush (v := (32 : Int32)) hx hb dX11_both_94 (by decide) ?_
        refine lv_irem hx hb dX11_both_96 (by decide) ?_
        refine lv_istore (lv' := [(10, .int ((f19 (((3 : Int32) * v26) + (1 : Int32)).toNatClampNeg) - (f19 (((3 : Int32) * v26) + (1 : Int32)).toNatClampNeg) / (32 : Int32) * (32 : Int32))), (9, .int ((f19 (((3 : Int32) * v26) + (1 : Int32)).toNatClampNeg) / (32 : Int32))), (8, .int v26), (7, .ref q24), (6, .ref q17), (5, .ref q14), (4, .ref q3), (3, .int v27)]) hx hb dX11_both_97 hl (by decide) rfl (fun ls hl => ?_)
        refine lv_aload hx hb dX11_both_99 (lv_at hl 6 rfl) ?_
        refine lv_iconst (v := (4 : Int32)) hx hb dX11_both_101 (by decide) ?_
        refine lv_iload hx hb dX11_both_102 (lv_at hl 1 rfl) ?_
        refine lv_imul hx hb dX11_both_104 ?_
        refine lv_iconst (v := (3 : Int32)) hx hb dX11_both_105 (by decide) ?_
        refine lv_iadd hx hb dX11_both_106 ?_
        obtain ⟨z34, h⟩ := h
        refine n_iald hx hb hK (hw.n (j := 0) rfl) z34 dX11_both_107 ?_
        refine lv_istore (lv' := [(11, .int (f5 (((4 : Int32) * ((f19 (((3 : Int32) * v26) + (1 : Int32)).toNatClampNeg) / (32 : Int32))) + (3 : Int32)).toNatClampNeg)), (10, .int ((f19 (((3 : Int32) * v26) + (1 : Int32)).toNatClampNeg) - (f19 (((3 : Int32) * v26) + (1 : Int32)).toNatClampNeg) / (32 : Int32) * (32 : Int32))), (9, .int ((f19 (((3 : Int32) * v26) + (1 : Int32)).toNatClampNeg) / (32 : Int32))), (8, .int v26), (7, .ref q24), (6, .ref q17), (5, .ref q14), (4, .ref q3), (3, .int v27)]) hx hb dX11_both_108 hl (by decide) rfl (fun ls hl => ?_)
        refine lv_aload hx hb dX11_both_110 (lv_at hl 6 rfl) ?_
        refine lv_iconst (v := (4 : Int32)) hx hb dX11_both_112 (by decide) ?_
        refine lv_iload hx hb dX11_both_113 (lv_at hl 1 rfl) ?_
        refine lv_imul hx hb dX11_both_115 ?_
        refine lv_iconst (v := (3 : Int32)) hx hb dX11_both_116 (by decide) ?_
        refine lv_iadd hx hb dX11_both_117 ?_
        obtain ⟨z35, h⟩ := h
        refine n_iald hx hb hK (hw.n (j := 1) rfl) z35 dX11_both_118 ?_
        refine lv_istore (lv' := [(12, .int (f16 (((4 : Int32) * ((f19 (((3 : Int32) * v26) + (1 : Int32)).toNatClampNeg) - (f19 (((3 : Int32) * v26) + (1 : Int32)).toNatClampNeg) / (32 : Int32) * (32 : Int32))) + (3 : Int32)).toNatClampNeg)), (11, .int (f5 (((4 : Int32) * ((f19 (((3 : Int32) * v26) + (1 : Int32)).toNatClampNeg) / (32 : Int32))) + (3 : Int32)).toNatClampNeg)), (10, .int ((f19 (((3 : Int32) * v26) + (1 : Int32)).toNatClampNeg) - (f19 (((3 : Int32) * v26) + (1 : Int32)).toNatClampNeg) / (32 : Int32) * (32 : Int32))), (9, .int ((f19 (((3 : Int32) * v26) + (1 : Int32)).toNatClampNeg) / (32 : Int32))), (8, .int v26), (7, .ref q24), (6, .ref q17), (5, .ref q14), (4, .ref q3), (3, .int v27)]) hx hb dX11_both_119 hl (by decide) rfl (fun ls hl => ?_)
        refine lv_aload hx hb dX11_both_121 (lv_at hl 5 rfl) ?_
        refine lv_iconst (v := (4 : Int32)) hx hb dX11_both_123 (by decide) ?_
        refine lv_iload hx hb dX11_both_124 (lv_at hl 4 rfl) ?_
        refine lv_imul hx hb dX11_both_126 ?_
        refine lv_iconst (v := (3 : Int32)) hx hb dX11_both_127 (by decide) ?_
        refine lv_iadd hx hb dX11_both_128 ?_
        refine lv_iload_n hx hb dX11_both_129 rfl (lv_at hl 9 rfl) ?_
        have h := h (fun (j37 : Int32) => ∀ (H : Heap) (locs : List Loc) (ls : Array Slot), MW D (MR ad cI μ) [eI cI q3 n4 f5, eI cI q14 n15 f16, eI cI q17 n18 f19, eI cI q24 n28 f29] (MA ad s.heap.size) s H locs → lv_has ls 15 [(10, .int ((f19 (((3 : Int32) * v26) + (1 : Int32)).toNatClampNeg) - (f19 (((3 : Int32) * v26) + (1 : Int32)).toNatClampNeg) / (32 : Int32) * (32 : Int32))), (9, .int ((f19 (((3 : Int32) * v26) + (1 : Int32)).toNatClampNeg) / (32 : Int32))), (8, .int v26), (7, .ref q24), (6, .ref q17), (5, .ref q14), (4, .ref q3), (3, .int v27)] → W p l e (RA 3 10 1350) s m #[.ref (ad 0), .int a1, .int a2, .int a3] below meth c H locs 10 1350 Z (F0 m 185 ls [.int j37, .int (((4 : Int32) * v26) + (3 : Int32)), .ref q24])) (fun j37 h H locs ls hw hl => by
          obtain ⟨z38, h⟩ := h
          refine n_iast (j := 3) hx hb hK hw rfl z38 dX11_both_185 (fun H locs hw => ?_)
          have hw : MW D (MR ad cI μ) [eI cI q3 n4 f5, eI cI q14 n15 f16, eI cI q17 n18 f19, eI cI q24 n28 (upd f29 (((4 : Int32) * v26) + (3 : Int32)).toNatClampNeg j37)] (MA ad s.heap.size) s H locs := hw
          refine lv_iconst (v := (0 : Int32)) hx hb dX11_both_186 (by decide) ?_
          refine lv_istore (lv' := [(13, .int (0 : Int32)), (10, .int ((f19 (((3 : Int32) * v26) + (1 : Int32)).toNatClampNeg) - (f19 (((3 : Int32) * v26) + (1 : Int32)).toNatClampNeg) / (32 : Int32) * (32 : Int32))), (9, .int ((f19 (((3 : Int32) * v26) + (1 : Int32)).toNatClampNeg) / (32 : Int32))), (8, .int v26), (7, .ref q24), (6, .ref q17), (5, .ref q14), (4, .ref q3), (3, .int v27)]) hx hb dX11_both_187 hl (by decide) rfl (fun ls hl => ?_)
          obtain ⟨n64, h⟩ := h
          have L38 : ∀ (v41 : Int32) (v42 : Int32) (v43 : Int32) (v44 : Int32) (K266 : (Nat → Int32) → Prop), (∀ (f45 : Nat → Int32), ∀ (H : Heap) (locs : List Loc) (ls : Array Slot), MW D (MR ad cI μ) [eI cI q3 n4 f5, eI cI q14 n15 f16, eI cI q17 n18 f19, eI cI q24 n28 f45] (MA ad s.heap.size) s H locs → lv_has ls 15 [(8, .int v43), (7, .ref q24), (6, .ref q17), (5, .ref q14), (4, .ref q3), (3, .int v44)] → K266 f45 → W p l e (RA 3 10 1350) s m #[.ref (ad 0), .int a1, .int a2, .int a3] below meth c H locs 10 1350 Z (F0 m 266 ls [])) → ∀ (n : Nat), ∀ (v40 : Int32) (f45 : Nat → Int32), ∀ (H : Heap) (locs : List Loc) (ls : Array Slot), MW D (MR ad cI μ) [eI cI q3 n4 f5, eI cI q14 n15 f16, eI cI q17 n18 f19, eI cI q24 n28 f45] (MA ad s.heap.size) s H locs → lv_has ls 15 [(13, .int v40), (10, .int v41), (9, .int v42), (8, .int v43), (7, .ref q24), (6, .ref q17), (5, .ref q14), (4, .ref q3), (3, .int v44)] → wpl_X11_both_189 μ f16 n15 f19 n18 n28 f5 n4 v41 v42 v43 v44 K266 n v40 f45 → W p l e (RA 3 10 1350) s m #[.ref (ad 0), .int a1, .int a2, .int a3] below meth c H locs 10 1350 Z (F0 m 189 ls []) := by
            intro v41 v42 v43 v44 K266 hK266
            intro n
            induction n with
            | zero => intro v40 f45 H locs ls hw hl h; exact False.elim h
            | succ n ih38 =>
              intro v40 f45 H locs ls hw hl h
              change ((3 : Int32) ≤ v40 → (K266 f45)) ∧ (¬ (3 : Int32) ≤ v40 → (vp_in (((4 : Int32) * v42) + v40) n4 ∧ (vp_in (((4 : Int32) * v41) + v40) n15 ∧ (∃ n48x, wpl_X11_both_221 μ f16 n15 f19 n18 n28 f5 n4 (((f5 (((4 : Int32) * v42) + v40).toNatClampNeg) * (32 : Int32)) + (f16 (((4 : Int32) * v41) + v40).toNatClampNeg)) v40 v41 v42 v43 v44 (fun (f63 : Nat → Int32) => wpl_X11_both_189 μ f16 n15 f19 n18 n28 f5 n4 v41 v42 v43 v44 K266 n (v40 + (1 : Int32)) f63) n48x f45)))) at h
              refine lv_iload hx hb dX11_both_189 (lv_at hl 0 rfl) ?_
              refine lv_iconst (v := (3 : Int32)) hx hb dX11_both_191 (by decide) ?_
              refine lv_icmp_ge (tgt := 266) hx hb dX11_both_192 (by decide) (fun c46 => ?_) (fun c46 => ?_)
              · have h := h.1 c46
                exact hK266 f45 H locs ls hw (lv_sub hl [3, 4, 5, 6, 7, 8] rfl) h
              have h := h.2 c46
              refine lv_aload hx hb dX11_both_195 (lv_at hl 7 rfl) ?_
              refine lv_iconst (v := (4 : Int32)) hx hb dX11_both_197 (by decide) ?_
              refine lv_iload hx hb dX11_both_198 (lv_at hl 2 rfl) ?_
              refine lv_imul hx hb dX11_both_200 ?_
              refine lv_iload hx hb dX11_both_201 (lv_at hl 0 rfl) ?_
              refine lv_iadd hx hb dX11_both_203 ?_
              obtain ⟨z47, h⟩ := h
              refine n_iald hx hb hK (hw.n (j := 0) rfl) z47 dX11_both_204 ?_
              refine lv_bipush (v := (32 : Int32)) hx hb dX11_both_205 (by decide) ?_
              refine lv_imul hx hb dX11_both_207 ?_
              refine lv_aload hx hb dX11_both_208 (lv_at hl 6 rfl) ?_
              refine lv_iconst (v := (4 : Int32)) hx hb dX11_both_210 (by decide) ?_
              refine lv_iload hx hb dX11_both_211 (lv_at hl 1 rfl) ?_
              refine lv_imul hx hb dX11_both_213 ?_
              refine lv_iload hx hb dX11_both_214 (lv_at hl 0 rfl) ?_
              refine lv_iadd hx hb dX11_both_216 ?_
              obtain ⟨z48, h⟩ := h
              refine n_iald hx hb hK (hw.n (j := 1) rfl) z48 dX11_both_217 ?_
              refine lv_iadd hx hb dX11_both_218 ?_
              refine lv_istore (lv' := [(14, .int (((f5 (((4 : Int32) * v42) + v40).toNatClampNeg) * (32 : Int32)) + (f16 (((4 : Int32) * v41) + v40).toNatClampNeg))), (13, .int v40), (10, .int v41), (9, .int v42), (8, .int v43), (7, .ref q24), (6, .ref q17), (5, .ref q14), (4, .ref q3), (3, .int v44)]) hx hb dX11_both_219 hl (by decide) rfl (fun ls hl => ?_)
              obtain ⟨n62, h⟩ := h
              have L48 : ∀ (v50 : Int32) (v51 : Int32) (v52 : Int32) (v53 : Int32) (v54 : Int32) (v55 : Int32) (K260 : (Nat → Int32) → Prop), (∀ (f56 : Nat → Int32), ∀ (H : Heap) (locs : List Loc) (ls : Array Slot), MW D (MR ad cI μ) [eI cI q3 n4 f5, eI cI q14 n15 f16, eI cI q17 n18 f19, eI cI q24 n28 f56] (MA ad s.heap.size) s H locs → lv_has ls 15 [(13, .int v51), (10, .int v52), (9, .int v53), (8, .int v54), (7, .ref q24), (6, .ref q17), (5, .ref q14), (4, .ref q3), (3, .int v55)] → K260 f56 → W p l e (RA 3 10 1350) s m #[.ref (ad 0), .int a1, .int a2, .int a3] below meth c H locs 10 1350 Z (F0 m 260 ls [])) → ∀ (n : Nat), ∀ (f56 : Nat → Int32), ∀ (H : Heap) (locs : List Loc) (ls : Array Slot), MW D (MR ad cI μ) [eI cI q3 n4 f5, eI cI q14 n15 f16, eI cI q17 n18 f19, eI cI q24 n28 f56] (MA ad s.heap.size) s H locs → lv_has ls 15 [(14, .int v50), (13, .int v51), (10, .int v52), (9, .int v53), (8, .int v54), (7, .ref q24), (6, .ref q17), (5, .ref q14), (4, .ref q3), (3, .int v55)] → wpl_X11_both_221 μ f16 n15 f19 n18 n28 f5 n4 v50 v51 v52 v53 v54 v55 K260 n f56 → W p l e (RA 3 10 1350) s m #[.ref (ad 0), .int a1, .int a2, .int a3] below meth c H locs 10 1350 Z (F0 m 221 ls []) := by
                intro v50 v51 v52 v53 v54 v55 K260 hK260
                intro n
                induction n with
                | zero => intro f56 H locs ls hw hl h; exact False.elim h
                | succ n ih48 =>
                  intro f56 H locs ls hw hl h
                  change vp_in (((4 : Int32) * v54) + v51) n28 ∧ (vp_in (((3 : Int32) * (f56 (((4 : Int32) * v54) + v51).toNatClampNeg)) + (1 : Int32)) n18 ∧ (((f19 (((3 : Int32) * (f56 (((4 : Int32) * v54) + v51).toNatClampNeg)) + (1 : Int32)).toNatClampNeg) = v50 → (K260 f56)) ∧ (¬ (f19 (((3 : Int32) * (f56 (((4 : Int32) * v54) + v51).toNatClampNeg)) + (1 : Int32)).toNatClampNeg) = v50 → (vp_in (((4 : Int32) * v54) + v51) n28 ∧ (vp_in (((4 : Int32) * v54) + v51) n28 ∧ (wpl_X11_both_221 μ f16 n15 f19 n18 n28 f5 n4 v50 v51 v52 v53 v54 v55 K260 n (upd f56 (((4 : Int32) * v54) + v51).toNatClampNeg ((f56 (((4 : Int32) * v54) + v51).toNatClampNeg) + (1 : Int32))))))))) at h
                  refine lv_aload hx hb dX11_both_221 (lv_at hl 6 rfl) ?_
                  refine lv_iconst (v := (3 : Int32)) hx hb dX11_both_223 (by decide) ?_
                  refine lv_aload hx hb dX11_both_224 (lv_at hl 5 rfl) ?_
                  refine lv_iconst (v := (4 : Int32)) hx hb dX11_both_226 (by decide) ?_
                  refine lv_iload hx hb dX11_both_227 (lv_at hl 4 rfl) ?_
                  refine lv_imul hx hb dX11_both_229 ?_
                  refine lv_iload hx hb dX11_both_230 (lv_at hl 1 rfl) ?_
                  refine lv_iadd hx hb dX11_both_232 ?_
                  obtain ⟨z57, h⟩ := h
                  refine n_iald hx hb hK (hw.n (j := 3) rfl) z57 dX11_both_233 ?_
                  refine lv_imul hx hb dX11_both_234 ?_
                  refine lv_iconst (v := (1 : Int32)) hx hb dX11_both_235 (by decide) ?_
                  refine lv_iadd hx hb dX11_both_236 ?_
                  obtain ⟨z58, h⟩ := h
                  refine n_iald hx hb hK (hw.n (j := 2) rfl) z58 dX11_both_237 ?_
                  refine lv_iload hx hb dX11_both_238 (lv_at hl 0 rfl) ?_
                  refine lv_icmp_eq (tgt := 260) hx hb dX11_both_240 (by decide) (fun c59 => ?_) (fun c59 => ?_)
                  · have h := h.1 c59
                    exact hK260 f56 H locs ls hw (lv_sub hl [1, 2, 3, 4, 5, 6, 7, 8, 9] rfl) h
                  have h := h.2 c59
                  refine lv_aload hx hb dX11_both_243 (lv_at hl 5 rfl) ?_
                  refine lv_iconst (v := (4 : Int32)) hx hb dX11_both_245 (by decide) ?_
                  refine lv_iload hx hb dX11_both_246 (lv_at hl 4 rfl) ?_
                  refine lv_imul hx hb dX11_both_248 ?_
                  refine lv_iload hx hb dX11_both_249 (lv_at hl 1 rfl) ?_
                  refine lv_iadd hx hb dX11_both_251 ?_
                  refine lv_dup2_11 hx hb dX11_both_252 rfl rfl ?_
                  obtain ⟨z60, h⟩ := h
                  refine n_iald hx hb hK (hw.n (j := 3) rfl) z60 dX11_both_253 ?_
                  refine lv_iconst (v := (1 : Int32)) hx hb dX11_both_254 (by decide) ?_
                  refine lv_iadd hx hb dX11_both_255 ?_
                  obtain ⟨z61, h⟩ := h
                  refine n_iast (j := 3) hx hb hK hw rfl z61 dX11_both_256 (fun H locs hw => ?_)
                  have hw : MW D (MR ad cI μ) [eI cI q3 n4 f5, eI cI q14 n15 f16, eI cI q17 n18 f19, eI cI q24 n28 (upd f56 (((4 : Int32) * v54) + v51).toNatClampNeg ((f56 (((4 : Int32) * v54) + v51).toNatClampNeg) + (1 : Int32)))] (MA ad s.heap.size) s H locs := hw
                  refine lv_goto (tgt := 221) hx hb dX11_both_257 (by decide) ?_
                  exact ih48 (upd f56 (((4 : Int32) * v54) + v51).toNatClampNeg ((f56 (((4 : Int32) * v54) + v51).toNatClampNeg) + (1 : Int32))) H locs ls hw (lv_sub hl [0, 1, 2, 3, 4, 5, 6, 7, 8, 9] rfl) h
              refine L48 (((f5 (((4 : Int32) * v42) + v40).toNatClampNeg) * (32 : Int32)) + (f16 (((4 : Int32) * v41) + v40).toNatClampNeg)) v40 v41 v42 v43 v44 _ ?_ n62 f45 H locs ls hw (lv_sub hl [0, 1, 2, 3, 4, 5, 6, 7, 8, 9] rfl) h
              intro f63 H locs ls hw hl h
              refine lv_iinc (v := (v40 + (1 : Int32))) (lv' := [(13, .int (v40 + (1 : Int32))), (10, .int v41), (9, .int v42), (8, .int v43), (7, .ref q24), (6, .ref q17), (5, .ref q14), (4, .ref q3), (3, .int v44)]) hx hb dX11_both_260 hl (k := 0) rfl rfl (by decide) rfl (fun ls hl => ?_)
              refine lv_goto (tgt := 189) hx hb dX11_both_263 (by decide) ?_
              exact ih38 (v40 + (1 : Int32)) f63 H locs ls hw (lv_sub hl [0, 1, 2, 3, 4, 5, 6, 7, 8] rfl) h
          refine L38 ((f19 (((3 : Int32) * v26) + (1 : Int32)).toNatClampNeg) - (f19 (((3 : Int32) * v26) + (1 : Int32)).toNatClampNeg) / (32 : Int32) * (32 : Int32)) ((f19 (((3 : Int32) * v26) + (1 : Int32)).toNatClampNeg) / (32 : Int32)) v26 v27 _ ?_ n64 (0 : Int32) (upd f29 (((4 : Int32) * v26) + (3 : Int32)).toNatClampNeg j37) H locs ls hw (lv_sub hl [0, 1, 2, 3, 4, 5, 6, 7, 8] rfl) h
          intro f65 H locs ls hw hl h
          refine lv_iinc (v := (v26 + (1 : Int32))) (lv' := [(8, .int (v26 + (1 : Int32))), (7, .ref q24), (6, .ref q17), (5, .ref q14), (4, .ref q3), (3, .int v27)]) hx hb dX11_both_266 hl (k := 0) rfl rfl (by decide) rfl (fun ls hl => ?_)
          refine lv_goto (tgt := 62) hx hb dX11_both_269 (by decide) ?_
          exact ih24 (v26 + (1 : Int32)) f65 H locs ls hw (lv_sub hl [0, 1, 2, 3, 4, 5] rfl) h)
        refine lv_if_ne (tgt := 143) hx hb dX11_both_130 (by decide) (fun c66 => ?_) (fun c66 => ?_)
        · have h := h.1 c66
          refine lv_iload_n hx hb dX11_both_143 rfl (lv_at hl 9 rfl) ?_
          refine lv_iconst (v := (1 : Int32)) hx hb dX11_both_144 (by decide) ?_
          refine lv_icmp_ne (tgt := 156) hx hb dX11_both_145 (by decide) (fun c67 => ?_) (fun c67 => ?_)
          · have h := h.1 c67
            refine lv_iload_n hx hb dX11_both_156 rfl (lv_at hl 9 rfl) ?_
            refine lv_iconst (v := (2 : Int32)) hx hb dX11_both_157 (by decide) ?_
            refine lv_icmp_ne (tgt := 173) hx hb dX11_both_158 (by decide) (fun c68 => ?_) (fun c68 => ?_)
            · have h := h.1 c68
              refine lv_iload hx hb dX11_both_173 (lv_at hl 1 rfl) ?_
              refine lv_iload hx hb dX11_both_175 (lv_at hl 0 rfl) ?_
              refine lv_icmp_ne (tgt := 184) hx hb dX11_both_177 (by decide) (fun c69 => ?_) (fun c69 => ?_)
              · have h := h.1 c69
                refine lv_iconst (v := (1 : Int32)) hx hb dX11_both_184 (by decide) ?_
                exact h H locs ls hw (lv_sub hl [2, 3, 4, 5, 6, 7, 8, 9] rfl)
              have h := h.2 c69
              refine lv_iconst (v := (0 : Int32)) hx hb dX11_both_180 (by decide) ?_
              refine lv_goto (tgt := 185) hx hb dX11_both_181 (by decide) ?_
              exact h H locs ls hw (lv_sub hl [2, 3, 4, 5, 6, 7, 8, 9] rfl)
            have h := h.2 c68
            refine lv_iload hx hb dX11_both_161 (lv_at hl 1 rfl) ?_
            refine lv_iload hx hb dX11_both_163 (lv_at hl 0 rfl) ?_
            refine lv_isub hx hb dX11_both_165 ?_
            refine lv_iconst (v := (0 : Int32)) hx hb dX11_both_166 (by decide) ?_
            refine va_mmax hx hb (hml.trans hl.1.symm) hown (ht _ q_1497) (ht _ q_942) (ht _ q_64) (ht _ q_943) (Nat.le_of_ble_eq_true rfl) (Nat.le_of_ble_eq_true rfl) (show 10 ≤ 10 by omega) (show 1350 ≤ 1350 by omega) dX11_both_167 ?_
            refine lv_goto (tgt := 185) hx hb dX11_both_170 (by decide) ?_
            exact h H locs ls hw (lv_sub hl [2, 3, 4, 5, 6, 7, 8, 9] rfl)
          have h := h.2 c67
          refine lv_iload hx hb dX11_both_148 (lv_at hl 1 rfl) ?_
          refine lv_iload hx hb dX11_both_150 (lv_at hl 0 rfl) ?_
          refine lv_imul hx hb dX11_both_152 ?_
          refine lv_goto (tgt := 185) hx hb dX11_both_153 (by decide) ?_
          exact h H locs ls hw (lv_sub hl [2, 3, 4, 5, 6, 7, 8, 9] rfl)
        have h := h.2 c66
        refine lv_iload hx hb dX11_both_133 (lv_at hl 1 rfl) ?_
        refine lv_iload hx hb dX11_both_135 (lv_at hl 0 rfl) ?_
        refine va_mmax hx hb (hml.trans hl.1.symm) hown (ht _ q_1497) (ht _ q_942) (ht _ q_64) (ht _ q_943) (Nat.le_of_ble_eq_true rfl) (Nat.le_of_ble_eq_true rfl) (show 10 ≤ 10 by omega) (show 1350 ≤ 1350 by omega) dX11_both_137 ?_
        refine lv_goto (tgt := 185) hx hb dX11_both_140 (by decide) ?_
        exact h H locs ls hw (lv_sub hl [2, 3, 4, 5, 6, 7, 8, 9] rfl)
    exact L24 (((4 : Int32) * (f19 (0 : Int32).toNatClampNeg)).toNatClampNeg) a3 n70 (0 : Int32) (fun _ => 0) H locs ls hw (lv_sub hl [0, 1, 2, 3, 4, 8] rfl) h
  have h := h.2 c21
  refine lv_null hx hb dX11_both_47 ?_
  exact hretN H locs ls 48 _ _ _ _ hw ⟨rfl, h⟩ (show 9 ≤ 10 by omega) (show 1222 ≤ 1350 by omega) dX11_both_48
