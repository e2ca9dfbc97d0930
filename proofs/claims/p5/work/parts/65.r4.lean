def wp_X11_found (μ : TMem) (a1 : Int32) (a2 : Int32) (Q : Option AI → Prop) : Prop :=
  (¬ a2 = (3 : Int32) → ((¬ a2 = (2 : Int32) → (wp_X11_oneWay_ μ a1 (fun (r16 : Option AI) => (r16 = none → (wp_X11_least_n (fun (r11 : Option AI) => (r11 = none → (Q none)) ∧ (∀ (n9 : Nat) (f10 : Nat → Int32), r11 = some (n9, f10) → (Q (some (n9, f10))))))) ∧ (∀ (n6 : Nat) (f7 : Nat → Int32), r16 = some (n6, f7) → (wp_X11_least n6 f7 (fun (r15 : Option AI) => (r15 = none → (Q none)) ∧ (∀ (n13 : Nat) (f14 : Nat → Int32), r15 = some (n13, f14) → (Q (some (n13, f14)))))))))) ∧ (a2 = (2 : Int32) → (wp_X11_turnedTwice μ a1 (fun (r22 : Option AI) => (r22 = none → (Q none)) ∧ (∀ (n20 : Nat) (f21 : Nat → Int32), r22 = some (n20, f21) → (Q (some (n20, f21))))))))) ∧ (a2 = (3 : Int32) → (wp_X11_oneWay_ μ a1 (fun (r28 : Option AI) => (r28 = none → (Q none)) ∧ (∀ (n26 : Nat) (f27 : Nat → Int32), r28 = some (n26, f27) → (Q (some (n26, f27)))))))
set_option maxHeartbeats 4000000 in
set_option maxRecDepth 100000 in
theorem c_X11_found {l : Launch} {D : va_G} {ad : Nat → Nat} {cI cL : ClassId}  (μ : TMem) (sz : Nat) (a1 : Int32) (a2 : Int32)  {Q : Option AI → Prop} (h : wp_X11_found μ a1 a2 Q) : MMA l yX11_found (.code yX11_found cX11_found 3 (Option.some (Jvm.ClassFile.FieldType.array Jvm.ClassFile.FieldType.int))) 3 41 1685 [.ref (ad 0), .int a1, .int a2] D ad cI cL sz μ [] (fun o μ1 => μ1 = μ ∧ Q o) := by
  refine M_metA (by decide +kernel) (Nat.le_of_ble_eq_true rfl) ?_
  intro p e s m below meth c Z ls hx hb hml hown ht hK hP0 hI hne hw hret hretN hl
  have hl : lv_has ls 3 [(0, .ref (ad 0)), (1, .int a1), (2, .int a2)] := hl
  suffices hh : ∀ (H : Heap) (locs : List Loc), MW D (MR ad cI μ) [] (MA ad s.heap.size) s H locs → W p l e (RA 3 41 1685) s m #[.ref (ad 0), .int a1, .int a2] below meth c H locs 0 0 Z (F0 m 0 ls []) from hh _ _ hw
  intro H locs hw
  change (¬ a2 = (3 : Int32) → ((¬ a2 = (2 : Int32) → (wp_X11_oneWay_ μ a1 (fun (r16 : Option AI) => (r16 = none → (wp_X11_least_n (fun (r11 : Option AI) => (r11 = none → (Q none)) ∧ (∀ (n9 : Nat) (f10 : Nat → Int32), r11 = some (n9, f10) → (Q (some (n9, f10))))))) ∧ (∀ (n6 : Nat) (f7 : Nat → Int32), r16 = some (n6, f7) → (wp_X11_least n6 f7 (fun (r15 : Option AI) => (r15 = none → (Q none)) ∧ (∀ (n13 : Nat) (f14 : Nat → Int32), r15 = some (n13, f14) → (Q (some (n13, f14)))))))))) ∧ (a2 = (2 : Int32) → (wp_X11_turnedTwice μ a1 (fun (r22 : Option AI) => (r22 = none → (Q none)) ∧ (∀ (n20 : Nat) (f21 : Nat → Int32), r22 = some (n20, f21) → (Q (some (n20, f21))))))))) ∧ (a2 = (3 : Int32) → (wp_X11_oneWay_ μ a1 (fun (r28 : Option AI) => (r28 = none → (Q none)) ∧ (∀ (n26 : Nat) (f27 : Nat → Int32), r28 = some (n26, f27) → (Q (some (n26, f27))))))) at h
  refine lv_iload_n hx hb dX11_found_0 rfl (lv_at hl 2 rfl) ?_
  refine lv_iconst (v := (3 : Int32)) hx hb dX11_found_1 (by decide) ?_
  refine lv_icmp_ne (tgt := 13) hx hb dX11_found_2 (by decide) (fun c1 => ?_) (fun c1 => ?_)
  · have h := h.1 c1
    refine lv_iload_n hx hb dX11_found_13 rfl (lv_at hl 2 rfl) ?_
    refine lv_iconst (v := (2 : Int32)) hx hb dX11_found_14 (by decide) ?_
    refine lv_icmp_ne (tgt := 26) hx hb dX11_found_15 (by decide) (fun c2 => ?_) (fun c2 => ?_)
    · have h := h.1 c2
      refine lv_aload_n hx hb dX11_found_26 rfl (lv_at hl 0 rfl) ?_
      refine lv_iload_n hx hb dX11_found_27 rfl (lv_at hl 1 rfl) ?_
      refine M_callA hw (MA.up hw.2.2.1.1) (va_runV (own := "LeastreaderModel") (As := [.int a1]) (rest := []) ⟨hx, hb, hml, hown, ht⟩ (c_X11_oneWay_ μ H.size a1 h) (cwV 1 ht (G_V q_1456 q_1458 q_37 q_56 q_1459) rfl rfl rfl ⟨rfl, hd_86⟩ ⟨Nat.le_of_ble_eq_true rfl, Nat.le_of_ble_eq_true rfl⟩) ⟨MB.blind, M_recv hK hw, MB.pre hK hI hw va_P0 ne0⟩ rfl rfl hl.1 rfl (lv_room (Nat.le_of_ble_eq_true rfl)) dX11_found_28 ⟨show 0 + 4 ≤ 41 by omega, show 0 + 309 ≤ 1685 by omega⟩) (fun μ3 H locs h hw => ?_) (fun q5 n6 f7 μ3 H locs hq5 h hw => ?_)
      · skip
        obtain ⟨e4, h⟩ := h
        rw [e4] at hw
        have h := h.1 rfl
        refine S_callA hw (va_runS (own := "LeastreaderModel") (As := [.null]) (rest := []) ⟨hx, hb, hml, hown, ht⟩ (c_X11_least_n H.size h) (va_cwS 1 ht (G_S q_1470 q_1471 q_56 q_1472) rfl rfl rfl hd_87 ⟨Nat.le_of_ble_eq_true rfl, Nat.le_of_ble_eq_true rfl⟩) ⟨SB.blind, SB.pre hK va_P0⟩ rfl rfl hl.1 rfl (lv_room (Nat.le_of_ble_eq_true rfl)) dX11_found_31 ⟨show 4 + 0 ≤ 41 by omega, show 309 + 0 ≤ 1685 by omega⟩) (fun H locs h hw => ?_) (fun q8 n9 f10 H locs hq8 h hw => ?_)
        · skip
          have h := h.1 rfl
          exact hretN H locs ls 34 _ _ _ _ hw ⟨rfl, h⟩ (show 4 ≤ 41 by omega) (show 309 ≤ 1685 by omega) dX11_found_34
        have h := h.2 _ _ rfl
        have hw : MW D (MR ad cI μ) [eI cI q8 n9 f10] (MA ad s.heap.size) s H locs := hw
        exact hret H locs ls 34 _ _ _ 0 _ _ _ _ hw rfl hq8 ⟨rfl, h⟩ (show 4 ≤ 41 by omega) (show 309 ≤ 1685 by omega) dX11_found_34
      obtain ⟨e4, h⟩ := h
      rw [e4] at hw
      have h := h.2 _ _ rfl
      have hw : MW D (MR ad cI μ) [eI cI q5 n6 f7] (MA ad s.heap.size) s H locs := hw
      refine S_callA hw (va_runS (own := "LeastreaderModel") (As := [.ref q5]) (rest := []) ⟨hx, hb, hml, hown, ht⟩ (c_X11_least q5 H.size n6 f7 h) (va_cwS 1 ht (G_S q_1470 q_1471 q_56 q_1472) rfl rfl rfl hd_87 ⟨Nat.le_of_ble_eq_true rfl, Nat.le_of_ble_eq_true rfl⟩) ⟨SB.blind, SB.pre hK (va_Pc2 (hw.n (j := 0) rfl) va_P0)⟩ rfl rfl hl.1 rfl (lv_room (Nat.le_of_ble_eq_true rfl)) dX11_found_31 ⟨show 4 + 37 ≤ 41 by omega, show 309 + 1376 ≤ 1685 by omega⟩) (fun H locs h hw => ?_) (fun q12 n13 f14 H locs hq12 h hw => ?_)
      · skip
        have h := h.1 rfl
        exact hretN H locs ls 34 _ _ _ _ hw ⟨rfl, h⟩ (show 41 ≤ 41 by omega) (show 1685 ≤ 1685 by omega) dX11_found_34
      have h := h.2 _ _ rfl
      have hw : MW D (MR ad cI μ) [eI cI q5 n6 f7, eI cI q12 n13 f14] (MA ad s.heap.size) s H locs := hw
      exact hret H locs ls 34 _ _ _ 1 _ _ _ _ hw rfl hq12 ⟨rfl, h⟩ (show 41 ≤ 41 by omega) (show 1685 ≤ 1685 by omega) dX11_found_34
    have h := h.2 c2
    refine lv_aload_n hx hb dX11_found_18 rfl (lv_at hl 0 rfl) ?_
    refine lv_iload_n hx hb dX11_found_19 rfl (lv_at hl 1 rfl) ?_
    refine M_callA hw (MA.up hw.2.2.1.1) (va_runV (own := "LeastreaderModel") (As := [.int a1]) (rest := []) ⟨hx, hb, hml, hown, ht⟩ (c_X11_turnedTwice μ H.size a1 h) (cwV 1 ht (G_V q_1466 q_1468 q_38 q_56 q_1469) rfl rfl rfl ⟨rfl, hd_88⟩ ⟨Nat.le_of_ble_eq_true rfl, Nat.le_of_ble_eq_true rfl⟩) ⟨MB.blind, M_recv hK hw, MB.pre hK hI hw va_P0 ne0⟩ rfl rfl hl.1 rfl (lv_room (Nat.le_of_ble_eq_true rfl)) dX11_found_20 ⟨show 0 + 8 ≤ 41 by omega, show 0 + 693 ≤ 1685 by omega⟩) (fun μ17 H locs h hw => ?_) (fun q19 n20 f21 μ17 H locs hq19 h hw => ?_)
    · skip
      obtain ⟨e18, h⟩ := h
      rw [e18] at hw
      have h := h.1 rfl
      refine lv_goto (tgt := 34) hx hb dX11_found_23 (by decide) ?_
      exact hretN H locs ls 34 _ _ _ _ hw ⟨rfl, h⟩ (show 8 ≤ 41 by omega) (show 693 ≤ 1685 by omega) dX11_found_34
    obtain ⟨e18, h⟩ := h
    rw [e18] at hw
    have h := h.2 _ _ rfl
    have hw : MW D (MR ad cI μ) [eI cI q19 n20 f21] (MA ad s.heap.size) s H locs := hw
    refine lv_goto (tgt := 34) hx hb dX11_found_23 (by decide) ?_
    exact hret H locs ls 34 _ _ _ 0 _ _ _ _ hw rfl hq19 ⟨rfl, h⟩ (show 8 ≤ 41 by omega) (show 693 ≤ 1685 by omega) dX11_found_34
  have h := h.2 c1
  refine lv_aload_n hx hb dX11_found_5 rfl (lv_at hl 0 rfl) ?_
  refine lv_iload_n hx hb dX11_found_6 rfl (lv_at hl 1 rfl) ?_
  refine M_callA hw (MA.up hw.2.2.1.1) (va_runV (own := "LeastreaderModel") (As := [.int a1]) (rest := []) ⟨hx, hb, hml, hown, ht⟩ (c_X11_oneWay_ μ H.size a1 h) (cwV 1 ht (G_V q_1456 q_1458 q_37 q_56 q_1459) rfl rfl rfl ⟨rfl, hd_86⟩ ⟨Nat.le_of_ble_eq_true rfl, Nat.le_of_ble_eq_true rfl⟩) ⟨MB.blind, M_recv hK hw, MB.pre hK hI hw va_P0 ne0⟩ rfl rfl hl.1 rfl (lv_room (Nat.le_of_ble_eq_true rfl)) dX11_found_7 ⟨show 0 + 4 ≤ 41 by omega, show 0 + 309 ≤ 1685 by omega⟩) (fun μ23 H locs h hw => ?_) (fun q25 n26 f27 μ23 H locs hq25 h hw => ?_)
  · skip
    obtain ⟨e24, h⟩ := h
    rw [e24] at hw
    have h := h.1 rfl
    refine lv_goto (tgt := 34) hx hb dX11_found_10 (by decide) ?_
    exact hretN H locs ls 34 _ _ _ _ hw ⟨rfl, h⟩ (show 4 ≤ 41 by omega) (show 309 ≤ 1685 by omega) dX11_found_34
  obtain ⟨e24, h⟩ := h
  rw [e24] at hw
  have h := h.2 _ _ rfl
  have hw : MW D (MR ad cI μ) [eI cI q25 n26 f27] (MA ad s.heap.size) s H locs := hw
  refine lv_goto (tgt := 34) hx hb dX11_found_10 (by decide) ?_
  exact hret H locs ls 34 _ _ _ 0 _ _ _ _ hw rfl hq25 ⟨rfl, h⟩ (show 4 ≤ 41 by omega) (show 309 ≤ 1685 by omega) dX11_found_34
def wpl_X11_ways_25 (fa1 : Nat → Int32) (na1 : Nat) (n7 : Nat) (v12 : Int32) (v13 : Int32) (v14 : Int32) (K116 : (Nat → Int32) → Prop) : Nat → Int32 → (Nat → Int32) → Prop
  | 0, _, _ => False
  | n + 1, v11, f15 =>
    (v13 ≤ v11 → (K116 f15)) ∧ (¬ v13 ≤ v11 → (vp_in (((4 : Int32) * v11) + (3 : Int32)) na1 ∧ (∀ J18 : Int32 → Prop, (∀ (j19 : Int32), (vp_in ((v12 * v13) + v11) n7 ∧ (wpl_X11_ways_25 fa1 na1 n7 v12 v13 v14 K116 n (v11 + (1 : Int32)) (upd f15 ((v12 * v13) + v11).toNatClampNeg j19))) → J18 j19) → ((v12 ≤ 0 → (J18 (fa1 (((4 : Int32) * v11) + (3 : Int32)).toNatClampNeg))) ∧ (¬ v12 ≤ 0 → (vp_in ((4 : Int32) * v11) na1 ∧ (vp_in (((v12 - (1 : Int32)) * v13) + (fa1 ((4 : Int32) * v11).toNatClampNeg)) n7 ∧ (vp_in (((4 : Int32) * v11) + (1 : Int32)) na1 ∧ (vp_in (((v12 - (1 : Int32)) * v13) + (fa1 (((4 : Int32) * v11) + (1 : Int32)).toNatClampNeg)) n7 ∧ (vp_in (((4 : Int32) * v11) + (2 : Int32)) na1 ∧ (vp_in (((v12 - (1 : Int32)) * v13) + (fa1 (((4 : Int32) * v11) + (2 : Int32)).toNatClampNeg)) n7 ∧ (J18 (((f15 (((v12 - (1 : Int32)) * v13) + (fa1 ((4 : Int32) * v11).toNatClampNeg)).toNatClampNeg) + (f15 (((v12 - (1 : Int32)) * v13) + (fa1 (((4 : Int32) * v11) + (1 : Int32)).toNatClampNeg)).toNatClampNeg)) + (f15 (((v12 - (1 : Int32)) * v13) + (fa1 (((4 : Int32) * v11) + (2 : Int32)).toNatClampNeg)).toNatClampNeg))))))))))))))
def wpl_X11_ways_16 (fa1 : Nat → Int32) (na1 : Nat) (n7 : Nat) (v5 : Int32) (v6 : Int32) (Q : Nat → (Nat → Int32) → Prop) : Nat → Int32 → (Nat → Int32) → Prop
  | 0, _, _ => False
  | n + 1, v4, f8 =>
    (v6 < v4 → (Q n7 f8)) ∧ (¬ v6 < v4 → (∃ n9x, wpl_X11_ways_25 fa1 na1 n7 v4 v5 v6 (fun (f29 : Nat → Int32) => wpl_X11_ways_16 fa1 na1 n7 v5 v6 Q n (v4 + (1 : Int32)) f29) n9x (0 : Int32) f8))
def wp_X11_ways (na1 : Nat) (fa1 : Nat → Int32) (a2 : Int32) (Q : Nat → (Nat → Int32) → Prop) : Prop :=
  (¬ (((nI na1) / (4 : Int32)) * (a2 + (1 : Int32))) < 0 ∧ (((nI na1) / (4 : Int32)) * (a2 + (1 : Int32))).toNatClampNeg ≤ 416) ∧ (∃ n2x, wpl_X11_ways_16 fa1 na1 ((((nI na1) / (4 : Int32)) * (a2 + (1 : Int32))).toNatClampNeg) ((nI na1) / (4 : Int32)) a2 Q n2x (0 : Int32) (fun _ => 0))
set_option maxHeartbeats 4000000 in
set_option maxRecDepth 100000 in
theorem c_X11_ways {l : Launch} {D : va_G} {cI cL : ClassId} (qa1 : Nat)  (sz : Nat) (na1 : Nat) (fa1 : Nat → Int32) (a2 : Int32)  {Q : Nat → (Nat → Int32) → Prop} (h : wp_X11_ways na1 fa1 a2 Q) : SMA l yX11_ways (.code yX11_ways cX11_ways 7 (Option.some (Jvm.ClassFile.FieldType.array Jvm.ClassFile.FieldType.int))) 0 1 416 [.ref qa1, .int a2] D cI cL sz [eI cI qa1 na1 fa1] (fun o => ∃ n f, o = some (n, f) ∧ Q n f) := by
  refine S_metA (by decide +kernel) (Nat.le_of_ble_eq_true rfl) ?_
  intro p e s m below meth c Z ls hx hb hml hown ht hK hP0 hw hret hretN hl
  have hl : lv_has ls 7 [(0, .ref qa1), (1, .int a2)] := hl
  have hL0 := va_Ph hP0
  have hB0 : ¬ SA s.heap.size qa1 := fun z => absurd hL0.lt (Nat.not_lt.mpr z)
  suffices hh : ∀ (H : Heap) (locs : List Loc), MW D [] [] (SA s.heap.size) s H locs → W p l e (RA 0 1 416) s m #[.ref qa1, .int a2] below meth c H locs 0 0 Z (F0 m 0 ls []) from hh _ _ hw
  intro H locs hw
  change (¬ (((nI na1) / (4 : Int32)) * (a2 + (1 : Int32))) < 0 ∧ (((nI na1) / (4 : Int32)) * (a2 + (1 : Int32))).toNatClampNeg ≤ 416) ∧ (∃ n2x, wpl_X11_ways_16 fa1 na1 ((((nI na1) / (4 : Int32)) * (a2 + (1 : Int32))).toNatClampNeg) ((nI na1) / (4 : Int32)) a2 Q n2x (0 : Int32) (fun _ => 0)) at h
  refine lv_aload_n hx hb dX11_ways_0 rfl (lv_at hl 0 rfl) ?_
  refine n_alenI hx hb hK (hw.arg hL0 hB0) dX11_ways_1 ?_
  refine lv_iconst (v := (4 : Int32)) hx hb dX11_ways_2 (by decide) ?_
  refine lv_idiv hx hb dX11_ways_3 (by decide) ?_
  refine lv_istore_n (lv' := [(2, .int ((nI na1) / (4 : Int32))), (0, .ref qa1), (1, .int a2)]) hx hb dX11_ways_4 rfl hl (by decide) rfl (fun ls hl => ?_)
  refine lv_iload_n hx hb dX11_ways_5 rfl (lv_at hl 0 rfl) ?_
  refine lv_iload_n hx hb dX11_ways_6 rfl (lv_at hl 2 rfl) ?_
  refine lv_iconst (v := (1 : Int32)) hx hb dX11_ways_7 (by decide) ?_
  refine lv_iadd hx hb dX11_ways_8 ?_
  refine lv_imul hx hb dX11_ways_9 ?_
  obtain ⟨z1, h⟩ := h
  refine n_newI (B := 416) hx hb ht q_128 hK hw z1 (by decide) (show 0 + 1 ≤ 1 by omega) (show 0 + 416 ≤ 416 by omega) dX11_ways_10 (fun q2 H hq2 hw => ?_)
  have hw : MW D [] [eI cI q2 ((((nI na1) / (4 : Int32)) * (a2 + (1 : Int32))).toNatClampNeg) (fun _ => 0)] (SA s.heap.size) s H locs := hw
  refine lv_astore_n (lv' := [(3, .ref q2), (2, .int ((nI na1) / (4 : Int32))), (0, .ref qa1), (1, .int a2)]) hx hb dX11_ways_12 rfl hl (by decide) rfl (fun ls hl => ?_)
  refine lv_iconst (v := (0 : Int32)) hx hb dX11_ways_13 (by decide) ?_
  refine lv_istore (lv' := [(4, .int (0 : Int32)), (3, .ref q2), (2, .int ((nI na1) / (4 : Int32))), (0, .ref qa1), (1, .int a2)]) hx hb dX11_ways_14 hl (by decide) rfl (fun ls hl => ?_)
  obtain ⟨n30, h⟩ := h
  have L2 : ∀ (n7 : Nat) (v5 : Int32) (v6 : Int32), ∀ (n : Nat), ∀ (v4 : Int32) (f8 : Nat → Int32), ∀ (H : Heap) (locs : List Loc) (ls : Array Slot), MW D [] [eI cI q2 n7 f8] (SA s.heap.size) s H locs → lv_has ls 7 [(4, .int v4), (3, .ref q2), (2, .int v5), (0, .ref qa1), (1, .int v6)] → wpl_X11_ways_16 fa1 na1 n7 v5 v6 Q n v4 f8 → W p l e (RA 0 1 416) s m #[.ref qa1, .int a2] below meth c H locs 1 416 Z (F0 m 16 ls []) := by
    intro n7 v5 v6
    intro n
    induction n with
    | zero => intro v4 f8 H locs ls hw hl h; exact False.elim h
    | succ n ih2 =>
      intro v4 f8 H locs ls hw hl h
      change (v6 < v4 → (Q n7 f8)) ∧ (¬ v6 < v4 → (∃ n9x, wpl_X11_ways_25 fa1 na1 n7 v4 v5 v6 (fun (f29 : Nat → Int32) => wpl_X11_ways_16 fa1 na1 n7 v5 v6 Q n (v4 + (1 : Int32)) f29) n9x (0 : Int32) f8)) at h
      refine lv_iload hx hb dX11_ways_16 (lv_at hl 0 rfl) ?_
      refine lv_iload_n hx hb dX11_ways_18 rfl (lv_at hl 4 rfl) ?_
      refine lv_icmp_gt (tgt := 122) hx hb dX11_ways_19 (by decide) (fun c9 => ?_) (fun c9 => ?_)
      · have h := h.1 c9
        refine lv_aload_n hx hb dX11_ways_122 rfl (lv_at hl 1 rfl) ?_
        exact hret H locs ls 123 _ _ _ 0 _ _ _ hw rfl hq2 ⟨_, _, rfl, h⟩ (show 1 ≤ 1 by omega) (show 416 ≤ 416 by omega) dX11_ways_123
      have h := h.2 c9
      refine lv_iconst (v := (0 : Int32)) hx hb dX11_ways_22 (by decide) ?_
      refine lv_istore (lv' := [(5, .int (0 : Int32)), (4, .int v4), (3, .ref q2), (2, .int v5), (0, .ref qa1), (1, .int v6)]) hx hb dX11_ways_23 hl (by decide) rfl (fun ls hl => ?_)
      obtain ⟨n28, h⟩ := h
      have L9 : ∀ (v12 : Int32) (v13 : Int32) (v14 : Int32) (K116 : (Nat → Int32) → Prop), (∀ (f15 : Nat → Int32), ∀ (H : Heap) (locs : List Loc) (ls : Array Slot), MW D [] [eI cI q2 n7 f15] (SA s.heap.size) s H locs → lv_has ls 7 [(4, .int v12), (3, .ref q2), (2, .int v13), (0, .ref qa1), (1, .int v14)] → K116 f15 → W p l e (RA 0 1 416) s m #[.ref qa1, .int a2] below meth c H locs 1 416 Z (F0 m 116 ls [])) → ∀ (n : Nat), ∀ (v11 : Int32) (f15 : Nat → Int32), ∀ (H : Heap) (locs : List Loc) (ls : Array Slot), MW D [] [eI cI q2 n7 f15] (SA s.heap.size) s H locs → lv_has ls 7 [(5, .int v11), (4, .int v12), (3, .ref q2), (2, .int v13), (0, .ref qa1), (1, .int v14)] → wpl_X11_ways_25 fa1 na1 n7 v12 v13 v14 K116 n v11 f15 → W p l e (RA 0 1 416) s m #[.ref qa1, .int a2] below meth c H locs 1 416 Z (F0 m 25 ls []) := by
        intro v12 v13 v14 K116 hK116
        intro n
        induction n with
        | zero => intro v11 f15 H locs ls hw hl h; exact False.elim h
        | succ n ih9 =>
          intro v11 f15 H locs ls hw hl h
          change (v13 ≤ v11 → (K116 f15)) ∧ (¬ v13 ≤ v11 → (vp_in (((4 : Int32) * v11) + (3 : Int32)) na1 ∧ (∀ J18 : Int32 → Prop, (∀ (j19 : Int32), (vp_in ((v12 * v13) + v11) n7 ∧ (wpl_X11_ways_25 fa1 na1 n7 v12 v13 v14 K116 n (v11 + (1 : Int32)) (upd f15 ((v12 * v13) + v11).toNatClampNeg j19))) → J18 j19) → ((v12 ≤ 0 → (J18 (fa1 (((4 : Int32) * v11) + (3 : Int32)).toNatClampNeg))) ∧ (¬ v12 ≤ 0 → (vp_in ((4 : Int32) * v11) na1 ∧ (vp_in (((v12 - (1 : Int32)) * v13) + (fa1 ((4 : Int32) * v11).toNatClampNeg)) n7 ∧ (vp_in (((4 : Int32) * v11) + (1 : Int32)) na1 ∧ (vp_in (((v12 - (1 : Int32)) * v13) + (fa1 (((4 : Int32) * v11) + (1 : Int32)).toNatClampNeg)) n7 ∧ (vp_in (((4 : Int32) * v11) + (2 : Int32)) na1 ∧ (vp_in (((v12 - (1 : Int32)) * v13) + (fa1 (((4 : Int32) * v11) + (2 : Int32)).toNatClampNeg)) n7 ∧ (J18 (((f15 (((v12 - (1 : Int32)) * v13) + (fa1 ((4 : Int32) * v11).toNatClampNeg)).toNatClampNeg) + (f15 (((v12 - (1 : Int32)) * v13) + (fa1 (((4 : Int32) * v11) + (1 : Int32)).toNatClampNeg)).toNatClampNeg)) + (f15 (((v12 - (1 : Int32)) * v13) + (fa1 (((4 : Int32) * v11) + (2 : Int32)).toNatClampNeg)).toNatClampNeg)))))))))))))) at h
          refine lv_iload hx hb dX11_ways_25 (lv_at hl 0 rfl) ?_
          refine lv_iload_n hx hb dX11_ways_27 rfl (lv_at hl 3 rfl) ?_
          refine lv_icmp_ge (tgt := 116) hx hb dX11_ways_28 (by decide) (fun c16 => ?_) (fun c16 => ?_)
          · have h := h.1 c16
            exact hK116 f15 H locs ls hw (lv_sub hl [1, 2, 3, 4, 5] rfl) h
          have h := h.2 c16
          refine lv_aload_n hx hb dX11_ways_31 rfl (lv_at hl 4 rfl) ?_
          refine lv_iconst (v := (4 : Int32)) hx hb dX11_ways_32 (by decide) ?_
          refine lv_iload hx hb dX11_ways_33 (lv_at hl 0 rfl) ?_
          refine lv_imul hx hb dX11_ways_35 ?_
          refine lv_iconst (v := (3 : Int32)) hx hb dX11_ways_36 (by decide) ?_
          refine lv_iadd hx hb dX11_ways_37 ?_
          obtain ⟨z17, h⟩ := h
          refine n_iald hx hb hK (hw.arg hL0 hB0) z17 dX11_ways_38 ?_
          refine lv_istore (lv' := [(6, .int (fa1 (((4 : Int32) * v11) + (3 : Int32)).toNatClampNeg)), (5, .int v11), (4, .int v12), (3, .ref q2), (2, .int v13), (0, .ref qa1), (1, .int v14)]) hx hb dX11_ways_39 hl (by decide) rfl (fun ls hl => ?_)
          refine lv_iload hx hb dX11_ways_41 (lv_at hl 2 rfl) ?_
          have h := h (fun (j19 : Int32) => ∀ (H : Heap) (locs : List Loc) (ls : Array Slot), MW D [] [eI cI q2 n7 f15] (SA s.heap.size) s H locs → lv_has ls 7 [(6, .int j19), (5, .int v11), (4, .int v12), (3, .ref q2), (2, .int v13), (0, .ref qa1), (1, .int v14)] → W p l e (RA 0 1 416) s m #[.ref qa1, .int a2] below meth c H locs 1 416 Z (F0 m 99 ls [])) (fun j19 h H locs ls hw hl => by
            refine lv_aload_n hx hb dX11_ways_99 rfl (lv_at hl 3 rfl) ?_
            refine lv_iload hx hb dX11_ways_100 (lv_at hl 2 rfl) ?_
            refine lv_iload_n hx hb dX11_ways_102 rfl (lv_at hl 4 rfl) ?_
            refine lv_imul hx hb dX11_ways_103 ?_
            refine lv_iload hx hb dX11_ways_104 (lv_at hl 1 rfl) ?_
            refine lv_iadd hx hb dX11_ways_106 ?_
            refine lv_iload hx hb dX11_ways_107 (lv_at hl 0 rfl) ?_
            obtain ⟨z20, h⟩ := h
            refine n_iast (j := 0) hx hb hK hw rfl z20 dX11_ways_109 (fun H locs hw => ?_)
            have hw : MW D [] [eI cI q2 n7 (upd f15 ((v12 * v13) + v11).toNatClampNeg j19)] (SA s.heap.size) s H locs := hw
            refine lv_iinc (v := (v11 + (1 : Int32))) (lv' := [(5, .int (v11 + (1 : Int32))), (6, .int j19), (4, .int v12), (3, .ref q2), (2, .int v13), (0, .ref qa1), (1, .int v14)]) hx hb dX11_ways_110 hl (k := 1) rfl rfl (by decide) rfl (fun ls hl => ?_)
            refine lv_goto (tgt := 25) hx hb dX11_ways_113 (by decide) ?_
            exact ih9 (v11 + (1 : Int32)) (upd f15 ((v12 * v13) + v11).toNatClampNeg j19) H locs ls hw (lv_sub hl [0, 2, 3, 4, 5, 6] rfl) h)
          refine lv_if_le (tgt := 99) hx hb dX11_ways_43 (by decide) (fun c21 => ?_) (fun c21 => ?_)
          · have h := h.1 c21
            exact h H locs ls hw (lv_sub hl [0, 1, 2, 3, 4, 5, 6] rfl)
          have h := h.2 c21
          refine lv_aload_n hx hb dX11_ways_46 rfl (lv_at hl 3 rfl) ?_
          refine lv_iload hx hb dX11_ways_47 (lv_at hl 2 rfl) ?_
          refine lv_iconst (v := (1 : Int32)) hx hb dX11_ways_49 (by decide) ?_
          refine lv_isub hx hb dX11_ways_50 ?_
          refine lv_iload_n hx hb dX11_ways_51 rfl (lv_at hl 4 rfl) ?_
          refine lv_imul hx hb dX11_ways_52 ?_
          refine lv_aload_n hx hb dX11_ways_53 rfl (lv_at hl 5 rfl) ?_
          refine lv_iconst (v := (4 : Int32)) hx hb dX11_ways_54 (by decide) ?_
          refine lv_iload hx hb dX11_ways_55 (lv_at hl 1 rfl) ?_
          refine lv_imul hx hb dX11_ways_57 ?_
          obtain ⟨z22, h⟩ := h
          refine n_iald hx hb hK (hw.arg hL0 hB0) z22 dX11_ways_58 ?_
          refine lv_iadd hx hb dX11_ways_59 ?_
          obtain ⟨z23, h⟩ := h
          refine n_iald hx hb hK (hw.n (j := 0) rfl) z23 dX11_ways_60 ?_
          refine lv_aload_n hx hb dX11_ways_61 rfl (lv_at hl 3 rfl) ?_
          refine lv_iload hx hb dX11_ways_62 (lv_at hl 2 rfl) ?_
          refine lv_iconst (v := (1 : Int32)) hx hb dX11_ways_64 (by decide) ?_
          refine lv_isub hx hb dX11_ways_65 ?_
          refine lv_iload_n hx hb dX11_ways_66 rfl (lv_at hl 4 rfl) ?_
          refine lv_imul hx hb dX11_ways_67 ?_
          refine lv_aload_n hx hb dX11_ways_68 rfl (lv_at hl 5 rfl) ?_
          refine lv_iconst (v := (4 : Int32)) hx hb dX11_ways_69 (by decide) ?_
          refine lv_iload hx hb dX11_ways_70 (lv_at hl 1 rfl) ?_
          refine lv_imul hx hb dX11_ways_72 ?_
          refine lv_iconst (v := (1 : Int32)) hx hb dX11_ways_73 (by decide) ?_
          refine lv_iadd hx hb dX11_ways_74 ?_
          obtain ⟨z24, h⟩ := h
          refine n_iald hx hb hK (hw.arg hL0 hB0) z24 dX11_ways_75 ?_
          refine lv_iadd hx hb dX11_ways_76 ?_
          obtain ⟨z25, h⟩ := h
          refine n_iald hx hb hK (hw.n (j := 0) rfl) z25 dX11_ways_77 ?_
          refine lv_iadd hx hb dX11_ways_78 ?_
          refine lv_aload_n hx hb dX11_ways_79 rfl (lv_at hl 3 rfl) ?_
          refine lv_iload hx hb dX11_ways_80 (lv_at hl 2 rfl) ?_
          refine lv_iconst (v := (1 : Int32)) hx hb dX11_ways_82 (by decide) ?_
          refine lv_isub hx hb dX11_ways_83 ?_
          refine lv_iload_n hx hb dX11_ways_84 rfl (lv_at hl 4 rfl) ?_
          refine lv_imul hx hb dX11_ways_85 ?_
          refine lv_aload_n hx hb dX11_ways_86 rfl (lv_at hl 5 rfl) ?_
          refine lv_iconst (v := (4 : Int32)) hx hb dX11_ways_87 (by decide) ?_
          refine lv_iload hx hb dX11_ways_88 (lv_at hl 1 rfl) ?_
          refine lv_imul hx hb dX11_ways_90 ?_
          refine lv_iconst (v := (2 : Int32)) hx hb dX11_ways_91 (by decide) ?_
          refine lv_iadd hx hb dX11_ways_92 ?_
          obtain ⟨z26, h⟩ := h
          refine n_iald hx hb hK (hw.arg hL0 hB0) z26 dX11_ways_93 ?_
          refine lv_iadd hx hb dX11_ways_94 ?_
          obtain ⟨z27, h⟩ := h
          refine n_iald hx hb hK (hw.n (j := 0) rfl) z27 dX11_ways_95 ?_
          refine lv_iadd hx hb dX11_ways_96 ?_
          refine lv_istore (lv' := [(6, .int (((f15 (((v12 - (1 : Int32)) * v13) + (fa1 ((4 : Int32) * v11).toNatClampNeg)).toNatClampNeg) + (f15 (((v12 - (1 : Int32)) * v13) + (fa1 (((4 : Int32) * v11) + (1 : Int32)).toNatClampNeg)).toNatClampNeg)) + (f15 (((v12 - (1 : Int32)) * v13) + (fa1 (((4 : Int32) * v11) + (2 : Int32)).toNatClampNeg)).toNatClampNeg))), (5, .int v11), (4, .int v12), (3, .ref q2), (2, .int v13), (0, .ref qa1), (1, .int v14)]) hx hb dX11_ways_97 hl (by decide) rfl (fun ls hl => ?_)
          exact h H locs ls hw (lv_sub hl [0, 1, 2, 3, 4, 5, 6] rfl)
      refine L9 v4 v5 v6 _ ?_ n28 (0 : Int32) f8 H locs ls hw (lv_sub hl [0, 1, 2, 3, 4, 5] rfl) h
      intro f29 H locs ls hw hl h
      refine lv_iinc (v := (v4 + (1 : Int32))) (lv' := [(4, .int (v4 + (1 : Int32))), (3, .ref q2), (2, .int v5), (0, .ref qa1), (1, .int v6)]) hx hb dX11_ways_116 hl (k := 0) rfl rfl (by decide) rfl (fun ls hl => ?_)
      refine lv_goto (tgt := 16) hx hb dX11_ways_119 (by decide) ?_
      exact ih2 (v4 + (1 : Int32)) f29 H locs ls hw (lv_sub hl [0, 1, 2, 3, 4] rfl) h
  exact L2 ((((nI na1) / (4 : Int32)) * (a2 + (1 : Int32))).toNatClampNeg) ((nI na1) / (4 : Int32)) a2 n30 (0 : Int32) (fun _ => 0) H locs ls hw (lv_sub hl [0, 1, 2, 3, 4] rfl) h
def wp_X11_isUnlike (na1 : Nat) (fa1 : Nat → Int32) (na2 : Nat) (fa2 : Nat → Int32) (a3 : Int32) (Q : Int32 → Prop) : Prop :=
  vp_in (((4 : Int32) * (a3 / (32 : Int32))) + (3 : Int32)) na1 ∧ (vp_in (((4 : Int32) * (a3 - a3 / (32 : Int32) * (32 : Int32))) + (3 : Int32)) na2 ∧ (((fa1 (((4 : Int32) * (a3 / (32 : Int32))) + (3 : Int32)).toNatClampNeg) = (fa2 (((4 : Int32) * (a3 - a3 / (32 : Int32) * (32 : Int32))) + (3 : Int32)).toNatClampNeg) → (Q (0 : Int32))) ∧ (¬ (fa1 (((4 : Int32) * (a3 / (32 : Int32))) + (3 : Int32)).toNatClampNeg) = (fa2 (((4 : Int32) * (a3 - a3 / (32 : Int32) * (32 : Int32))) + (3 : Int32)).toNatClampNeg) → (Q (1 : Int32)))))
set_option maxHeartbeats 4000000 in
set_option maxRecDepth 100000 in
theorem c_X11_isUnlike {l : Launch} {D : va_G} {cI cL : ClassId} (qa1 : Nat) (qa2 : Nat)  (sz : Nat) (na1 : Nat) (fa1 : Nat → Int32) (na2 : Nat) (fa2 : Nat → Int32) (a3 : Int32)  {Q : Int32 → Prop} (h : wp_X11_isUnlike na1 fa1 na2 fa2 a3 Q) : SMi l yX11_isUnlike (.code yX11_isUnlike cX11_isUnlike 3 (Option.some Jvm.ClassFile.FieldType.boolean)) 0 0 0 [.ref qa1, .ref qa2, .int a3] D cI cL sz [eI cI qa1 na1 fa1, eI cI qa2 na2 fa2] Q := by
  refine S_meti (by decide +kernel) (Nat.le_of_ble_eq_true rfl) ?_
  intro p e s m below meth c Z ls hx hb hml hown ht hK hP0 hw hret hl
  have hl : lv_has ls 3 [(0, .ref qa1), (1, .ref qa2), (2, .int a3)] := hl
  have hL0 := va_Ph hP0
  have hB0 : ¬ SA s.heap.size qa1 := fun z => absurd hL0.lt (Nat.not_lt.mpr z)
  have hL1 := va_Ph (va_Pt hP0)
  have hB1 : ¬ SA s.heap.size qa2 := fun z => absurd hL1.lt (Nat.not_lt.mpr z)
  suffices hh : ∀ (H : Heap) (locs : List Loc), MW D [] [] (SA s.heap.size) s H locs → W p l e (RA 0 0 0) s m #[.ref qa1, .ref qa2, .int a3] below meth c H locs 0 0 Z (F0 m 0 ls []) from hh _ _ hw
  intro H locs hw
  change vp_in (((4 : Int32) * (a3 / (32 : Int32))) + (3 : Int32)) na1 ∧ (vp_in (((4 : Int32) * (a3 - a3 / (32 : Int32) * (32 : Int32))) + (3 : Int32)) na2 ∧ (((fa1 (((4 : Int32) * (a3 / (32 : Int32))) + (3 : Int32)).toNatClampNeg) = (fa2 (((4 : Int32) * (a3 - a3 / (32 : Int32) * (32 : Int32))) + (3 : Int32)).toNatClampNeg) → (Q (0 : Int32))) ∧ (¬ (fa1 (((4 : Int32) * (a3 / (32 : Int32))) + (3 : Int32)).toNatClampNeg) = (fa2 (((4 : Int32) * (a3 - a3 / (32 : Int32) * (32 : Int32))) + (3 : Int32)).toNatClampNeg) → (Q (1 : Int32))))) at h
  refine lv_aload_n hx hb dX11_isUnlike_0 rfl (lv_at hl 0 rfl) ?_
  refine lv_iconst (v := (4 : Int32)) hx hb dX11_isUnlike_1 (by decide) ?_
  refine lv_iload_n hx hb dX11_isUnlike_2 rfl (lv_at hl 2 rfl) ?_
  refine lv_bipush (v := (32 : Int32)) hx hb dX11_isUnlike_3 (by decide) ?_
  refine lv_idiv hx hb dX11_isUnlike_5 (by decide) ?_
  refine lv_imul hx hb dX11_isUnlike_6 ?_
  refine lv_iconst (v := (3 : Int32)) hx hb dX11_isUnlike_7 (by decide) ?_
  refine lv_iadd hx hb dX11_isUnlike_8 ?_
  obtain ⟨z1, h⟩ := h
  refine n_iald hx hb hK (hw.arg hL0 hB0) z1 dX11_isUnlike_9 ?_
  refine lv_aload_n hx hb dX11_isUnlike_10 rfl (lv_at hl 1 rfl) ?_
  refine lv_iconst (v := (4 : Int32)) hx hb dX11_isUnlike_11 (by decide) ?_
  refine lv_iload_n hx hb dX11_isUnlike_12 rfl (lv_at hl 2 rfl) ?_
  refine lv_bipush (v := (32 : Int32)) hx hb dX11_isUnlike_13 (by decide) ?_
  refine lv_irem hx hb dX11_isUnlike_15 (by decide) ?_
  refine lv_imul hx hb dX11_isUnlike_16 ?_
  refine lv_iconst (v := (3 : Int32)) hx hb dX11_isUnlike_17 (by decide) ?_
  refine lv_iadd hx hb dX11_isUnlike_18 ?_
  obtain ⟨z2, h⟩ := h
  refine n_iald hx hb hK (hw.arg hL1 hB1) z2 dX11_isUnlike_19 ?_
  refine lv_icmp_eq (tgt := 27) hx hb dX11_isUnlike_20 (by decide) (fun c3 => ?_) (fun c3 => ?_)
  · have h := h.1 c3
    refine lv_iconst (v := (0 : Int32)) hx hb dX11_isUnlike_27 (by decide) ?_
    exact hret H locs ls 28 _ _ _ _ hw h rfl (show 0 ≤ 0 by omega) (show 0 ≤ 0 by omega) dX11_isUnlike_28
  have h := h.2 c3
  refine lv_iconst (v := (1 : Int32)) hx hb dX11_isUnlike_23 (by decide) ?_
  refine lv_goto (tgt := 28) hx hb dX11_isUnlike_24 (by decide) ?_
  exact hret H locs ls 28 _ _ _ _ hw h rfl (show 0 ≤ 0 by omega) (show 0 ≤ 0 by omega) dX11_isUnlike_28
def wpl_X11_met_87 (fa1 : Nat → Int32) (na1 : Nat) (fa2 : Nat → Int32) (na2 : Nat) (f17 : Nat → Int32) (n8 : Nat) (v24 : Int32) (v25 : Int32) (v26 : Int32) (v27 : Int32) (v28 : Int32) (v29 : Int32) (K114 : Int32 → Prop) : Nat → Int32 → Prop
  | 0, _ => False
  | n + 1, v23 =>
    (v27 ≤ v23 → (K114 v23)) ∧ (¬ v27 ≤ v23 → (vp_in (((3 : Int32) * v23) + (1 : Int32)) n8 ∧ (((f17 (((3 : Int32) * v23) + (1 : Int32)).toNatClampNeg) = v24 → (K114 v23)) ∧ (¬ (f17 (((3 : Int32) * v23) + (1 : Int32)).toNatClampNeg) = v24 → (wpl_X11_met_87 fa1 na1 fa2 na2 f17 n8 v24 v25 v26 v27 v28 v29 K114 n (v23 + (1 : Int32)))))))
def wpl_X11_met_27 (fa1 : Nat → Int32) (na1 : Nat) (fa2 : Nat → Int32) (na2 : Nat) (n8 : Nat) (v13 : Int32) (v15 : Int32) (v16 : Int32) (K199 : Int32 → (Nat → Int32) → Prop) (Q : Nat → (Nat → Int32) → Prop) : Nat → Int32 → Int32 → (Nat → Int32) → Prop
  | 0, _, _, _ => False
  | n + 1, v12, v14, f17 =>
    ((3 : Int32) ≤ v12 → (K199 v14 f17)) ∧ (¬ (3 : Int32) ≤ v12 → (vp_in (((3 : Int32) * v13) + (1 : Int32)) n8 ∧ (∀ J20 : Int32 → Prop, (∀ (j21 : Int32), (∃ n21x, wpl_X11_met_87 fa1 na1 fa2 na2 f17 n8 j21 v12 v13 v14 v15 v16 (fun (u34 : Int32) => ∀ J35 : Int32 → (Nat → Int32) → Prop, (∀ (j36 : Int32) (f37 : Nat → Int32), (vp_in (0 : Int32) n8 ∧ ((v15 < j36 → (Q n8 (upd f37 (0 : Int32).toNatClampNeg j36))) ∧ (¬ v15 < j36 → ((v16 = 0 → (wpl_X11_met_27 fa1 na1 fa2 na2 n8 v13 v15 v16 K199 Q n (v12 + (1 : Int32)) j36 (upd f37 (0 : Int32).toNatClampNeg j36))) ∧ (¬ v16 = 0 → (vp_in (((3 : Int32) * j36) - (2 : Int32)) n8 ∧ (wp_X11_isUnlike na1 fa1 na2 fa2 ((upd f37 (0 : Int32).toNatClampNeg j36) (((3 : Int32) * j36) - (2 : Int32)).toNatClampNeg) (fun (r42 : Int32) => (r42 = 0 → (wpl_X11_met_27 fa1 na1 fa2 na2 n8 v13 v15 v16 K199 Q n (v12 + (1 : Int32)) j36 (upd f37 (0 : Int32).toNatClampNeg j36))) ∧ (¬ r42 = 0 → (Q n8 (upd f37 (0 : Int32).toNatClampNeg j36))))))))))) → J35 j36 f37) → ((¬ u34 = v14 → (J35 v14 f17)) ∧ (u34 = v14 → (vp_in (((3 : Int32) * v14) + (1 : Int32)) n8 ∧ (vp_in (((3 : Int32) * v14) + (2 : Int32)) n8 ∧ (vp_in (((3 : Int32) * v14) + (3 : Int32)) n8 ∧ (J35 (v14 + (1 : Int32)) (upd (upd (upd f17 (((3 : Int32) * v14) + (1 : Int32)).toNatClampNeg j21) (((3 : Int32) * v14) + (2 : Int32)).toNatClampNeg v13) (((3 : Int32) * v14) + (3 : Int32)).toNatClampNeg v12)))))))) n21x (0 : Int32)) → J20 j21) → ((0 ≤ v12 → (vp_in (((4 : Int32) * ((f17 (((3 : Int32) * v13) + (1 : Int32)).toNatClampNeg) / (32 : Int32))) + v12) na1 ∧ (vp_in (((4 : Int32) * ((f17 (((3 : Int32) * v13) + (1 : Int32)).toNatClampNeg) - (f17 (((3 : Int32) * v13) + (1 : Int32)).toNatClampNeg) / (32 : Int32) * (32 : Int32))) + v12) na2 ∧ (J20 (((fa1 (((4 : Int32) * ((f17 (((3 : Int32) * v13) + (1 : Int32)).toNatClampNeg) / (32 : Int32))) + v12).toNatClampNeg) * (32 : Int32)) + (fa2 (((4 : Int32) * ((f17 (((3 : Int32) * v13) + (1 : Int32)).toNatClampNeg) - (f17 (((3 : Int32) * v13) + (1 : Int32)).toNatClampNeg) / (32 : Int32) * (32 : Int32))) + v12).toNatClampNeg)))))) ∧ (¬ 0 ≤ v12 → (J20 (f17 (((3 : Int32) * v13) + (1 : Int32)).toNatClampNeg)))))))
def wpl_X11_met_17 (fa1 : Nat → Int32) (na1 : Nat) (fa2 : Nat → Int32) (na2 : Nat) (n8 : Nat) (v6 : Int32) (v7 : Int32) (Q : Nat → (Nat → Int32) → Prop) : Nat → Int32 → Int32 → (Nat → Int32) → Prop
  | 0, _, _, _ => False
  | n + 1, v4, v5, f9 =>
    (v5 ≤ v4 → (Q n8 f9)) ∧ (¬ v5 ≤ v4 → (∃ n10x, wpl_X11_met_27 fa1 na1 fa2 na2 n8 v4 v6 v7 (fun (u52 : Int32) (f53 : Nat → Int32) => wpl_X11_met_17 fa1 na1 fa2 na2 n8 v6 v7 Q n (v4 + (1 : Int32)) u52 f53) Q n10x (-1 : Int32) v5 f9))
def wp_X11_met (na1 : Nat) (fa1 : Nat → Int32) (na2 : Nat) (fa2 : Nat → Int32) (a3 : Int32) (a4 : Int32) (Q : Nat → (Nat → Int32) → Prop) : Prop :=
  (¬ (((3 : Int32) * (a3 + (1 : Int32))) + (1 : Int32)) < 0 ∧ (((3 : Int32) * (a3 + (1 : Int32))) + (1 : Int32)).toNatClampNeg ≤ 604) ∧ (∃ n2x, wpl_X11_met_17 fa1 na1 fa2 na2 ((((3 : Int32) * (a3 + (1 : Int32))) + (1 : Int32)).toNatClampNeg) a3 a4 Q n2x (0 : Int32) (1 : Int32) (fun _ => 0))
set_option maxHeartbeats 4000000 in
set_option maxRecDepth 100000 in
theorem c_X11_met {l : Launch} {D : va_G} {cI cL : ClassId} (qa1 : Nat) (qa2 : Nat)  (sz : Nat) (na1 : Nat) (fa1 : Nat → Int32) (na2 : Nat) (fa2 : Nat → Int32) (a3 : Int32) (a4 : Int32)  {Q : Nat → (Nat → Int32) → Prop} (h : wp_X11_met na1 fa1 na2 fa2 a3 a4 Q) : SMA l yX11_met (.code yX11_met cX11_met 11 (Option.some (Jvm.ClassFile.FieldType.array Jvm.ClassFile.FieldType.int))) 1 1 604 [.ref qa1, .ref qa2, .int a3, .int a4] D cI cL sz [eI cI qa1 na1 fa1, eI cI qa2 na2 fa2] (fun o => ∃ n f, o = some (n, f) ∧ Q n f) := by
  refine S_metA (by decide +kernel) (Nat.le_of_ble_eq_true rfl) ?_
  intro p e s m below meth c Z ls hx hb hml hown ht hK hP0 hw hret hretN hl
  have hl : lv_has ls 11 [(0, .ref qa1), (1, .ref qa2), (2, .int a3), (3, .int a4)] := hl
  have hL0 := va_Ph hP0
  have hB0 : ¬ SA s.heap.size qa1 := fun z => absurd hL0.lt (Nat.not_lt.mpr z)
  have hL1 := va_Ph (va_Pt hP0)
  have hB1 : ¬ SA s.heap.size qa2 := fun z => absurd hL1.lt (Nat.not_lt.mpr z)
  suffices hh : ∀ (H : Heap) (locs : List Loc), MW D [] [] (SA s.heap.size) s H locs → W p l e (RA 1 1 604) s m #[.ref qa1, .ref qa2, .int a3, .int a4] below meth c H locs 0 0 Z (F0 m 0 ls []) from hh _ _ hw
  intro H locs hw
  change (¬ (((3 : Int32) * (a3 + (1 : Int32))) + (1 : Int32)) < 0 ∧ (((3 : Int32) * (a3 + (1 : Int32))) + (1 : Int32)).toNatClampNeg ≤ 604) ∧ (∃ n2x, wpl_X11_met_17 fa1 na1 fa2 na2 ((((3 : Int32) * (a3 + (1 : Int32))) + (1 : Int32)).toNatClampNeg) a3 a4 Q n2x (0 : Int32) (1 : Int32) (fun _ => 0)) at h
  refine lv_iconst (v := (3 : Int32)) hx hb dX11_met_0 (by decide) ?_
  refine lv_iload_n hx hb dX11_met_1 rfl (lv_at hl 2 rfl) ?_
  refine lv_iconst (v := (1 : Int32)) hx hb dX11_met_2 (by decide) ?_
  refine lv_iadd hx hb dX11_met_3 ?_
  refine lv_imul hx hb dX11_met_4 ?_
  refine lv_iconst (v := (1 : Int32)) hx hb dX11_met_5 (by decide) ?_
  refine lv_iadd hx hb dX11_met_6 ?_
  obtain ⟨z1, h⟩ := h
  refine n_newI (B := 604) hx hb ht q_128 hK hw z1 (by decide) (show 0 + 1 ≤ 1 by omega) (show 0 + 604 ≤ 604 by omega) dX11_met_7 (fun q2 H hq2 hw => ?_)
  have hw : MW D [] [eI cI q2 ((((3 : Int32) * (a3 + (1 : Int32))) + (1 : Int32)).toNatClampNeg) (fun _ => 0)] (SA s.heap.size) s H locs := hw
  refine lv_astore (lv' := [(4, .ref q2), (0, .ref qa1), (1, .ref qa2), (2, .int a3), (3, .int a4)]) hx hb dX11_met_9 hl (by decide) rfl (fun ls hl => ?_)
  refine lv_iconst (v := (1 : Int32)) hx hb dX11_met_11 (by decide) ?_
  refine lv_istore (lv' := [(5, .int (1 : Int32)), (4, .ref q2), (0, .ref qa1), (1, .ref qa2), (2, .int a3), (3, .int a4)]) hx hb dX11_met_12 hl (by decide) rfl (fun ls hl => ?_)
  refine lv_iconst (v := (0 : Int32)) hx hb dX11_met_14 (by decide) ?_
  refine lv_istore (lv' := [(6, .int (0 : Int32)), (5, .int (1 : Int32)), (4, .ref q2), (0, .ref qa1), (1, .ref qa2), (2, .int a3), (3, .int a4)]) hx hb dX11_met_15 hl (by decide) rfl (fun ls hl => ?_)
  obtain ⟨n54, h⟩ := h
  have L2 : ∀ (n8 : Nat) (v6 : Int32) (v7 : Int32), ∀ (n : Nat), ∀ (v4 : Int32) (v5 : Int32) (f9 : Nat → Int32), ∀ (H : Heap) (locs : List Loc) (ls : Array Slot), MW D [] [eI cI q2 n8 f9] (SA s.heap.size) s H locs → lv_has ls 11 [(6, .int v4), (5, .int v5), (4, .ref q2), (0, .ref qa1), (1, .ref qa2), (2, .int v6), (3, .int v7)] → wpl_X11_met_17 fa1 na1 fa2 na2 n8 v6 v7 Q n v4 v5 f9 → W p l e (RA 1 1 604) s m #[.ref qa1, .ref qa2, .int a3, .int a4] below meth c H locs 1 604 Z (F0 m 17 ls []) := by
    intro n8 v6 v7
    intro n
    induction n with
    | zero => intro v4 v5 f9 H locs ls hw hl h; exact False.elim h
    | succ n ih2 =>
      intro v4 v5 f9 H locs ls hw hl h
      change (v5 ≤ v4 → (Q n8 f9)) ∧ (¬ v5 ≤ v4 → (∃ n10x, wpl_X11_met_27 fa1 na1 fa2 na2 n8 v4 v6 v7 (fun (u52 : Int32) (f53 : Nat → Int32) => wpl_X11_met_17 fa1 na1 fa2 na2 n8 v6 v7 Q n (v4 + (1 : Int32)) u52 f53) Q n10x (-1 : Int32) v5 f9)) at h
      refine lv_iload hx hb dX11_met_17 (lv_at hl 0 rfl) ?_
      refine lv_iload hx hb dX11_met_19 (lv_at hl 1 rfl) ?_
      refine lv_icmp_ge (tgt := 205) hx hb dX11_met_21 (by decide) (fun c10 => ?_) (fun c10 => ?_)
      · have h := h.1 c10
        refine lv_aload hx hb dX11_met_205 (lv_at hl 2 rfl) ?_
        exact hret H locs ls 207 _ _ _ 0 _ _ _ hw rfl hq2 ⟨_, _, rfl, h⟩ (show 1 ≤ 1 by omega) (show 604 ≤ 604 by omega) dX11_met_207
      have h := h.2 c10
      refine lv_iconst (v := (-1 : Int32)) hx hb dX11_met_24 (by decide) ?_
      refine lv_istore (lv' := [(7, .int (-1 : Int32)), (6, .int v4), (5, .int v5), (4, .ref q2), (0, .ref qa1), (1, .ref qa2), (2, .int v6), (3, .int v7)]) hx hb dX11_met_25 hl (by decide) rfl (fun ls hl => ?_)
      obtain ⟨n51, h⟩ := h
      have L10 : ∀ (v13 : Int32) (v15 : Int32) (v16 : Int32) (K199 : Int32 → (Nat → Int32) → Prop), (∀ (v14 : Int32) (f17 : Nat → Int32), ∀ (H : Heap) (locs : List Loc) (ls : Array Slot), MW D [] [eI cI q2 n8 f17] (SA s.heap.size) s H locs → lv_has ls 11 [(6, .int v13), (5, .int v14), (4, .ref q2), (0, .ref qa1), (1, .ref qa2), (2, .int v15), (3, .int v16)] → K199 v14 f17 → W p l e (RA 1 1 604) s m #[.ref qa1, .ref qa2, .int a3, .int a4] below meth c H locs 1 604 Z (F0 m 199 ls [])) → ∀ (n : Nat), ∀ (v12 : Int32) (v14 : Int32) (f17 : Nat → Int32), ∀ (H : Heap) (locs : List Loc) (ls : Array Slot), MW D [] [eI cI q2 n8 f17] (SA s.heap.size) s H locs → lv_has ls 11 [(7, .int v12), (6, .int v13), (5, .int v14), (4, .ref q2), (0, .ref qa1), (1, .ref qa2), (2, .int v15), (3, .int v16)] → wpl_X11_met_27 fa1 na1 fa2 na2 n8 v13 v15 v16 K199 Q n v12 v14 f17 → W p l e (RA 1 1 604) s m #[.ref qa1, .ref qa2, .int a3, .int a4] below meth c H locs 1 604 Z (F0 m 27 ls []) := by
        intro v13 v15 v16 K199 hK199
        intro n
        induction n with
        | zero => intro v12 v14 f17 H locs ls hw hl h; exact False.elim h
        | succ n ih10 =>
          intro v12 v14 f17 H locs ls hw hl h
          change ((3 : Int32) ≤ v12 → (K199 v14 f17)) ∧ (¬ (3 : Int32) ≤ v12 → (vp_in (((3 : Int32) * v13) + (1 : Int32)) n8 ∧ (∀ J20 : Int32 → Prop, (∀ (j21 : Int32), (∃ n21x, wpl_X11_met_87 fa1 na1 fa2 na2 f17 n8 j21 v12 v13 v14 v15 v16 (fun (u34 : Int32) => ∀ J35 : Int32 → (Nat → Int32) → Prop, (∀ (j36 : Int32) (f37 : Nat → Int32), (vp_in (0 : Int32) n8 ∧ ((v15 < j36 → (Q n8 (upd f37 (0 : Int32).toNatClampNeg j36))) ∧ (¬ v15 < j36 → ((v16 = 0 → (wpl_X11_met_27 fa1 na1 fa2 na2 n8 v13 v15 v16 K199 Q n (v12 + (1 : Int32)) j36 (upd f37 (0 : Int32).toNatClampNeg j36))) ∧ (¬ v16 = 0 → (vp_in (((3 : Int32) * j36) - (2 : Int32)) n8 ∧ (wp_X11_isUnlike na1 fa1 na2 fa2 ((upd f37 (0 : Int32).toNatClampNeg j36) (((3 : Int32) * j36) - (2 : Int32)).toNatClampNeg) (fun (r42 : Int32) => (r42 = 0 → (wpl_X11_met_27 fa1 na1 fa2 na2 n8 v13 v15 v16 K199 Q n (v12 + (1 : Int32)) j36 (upd f37 (0 : Int32).toNatClampNeg j36))) ∧ (¬ r42 = 0 → (Q n8 (upd f37 (0 : Int32).toNatClampNeg j36))))))))))) → J35 j36 f37) → ((¬ u34 = v14 → (J35 v14 f17)) ∧ (u34 = v14 → (vp_in (((3 : Int32) * v14) + (1 : Int32)) n8 ∧ (vp_in (((3 : Int32) * v14) + (2 : Int32)) n8 ∧ (vp_in (((3 : Int32) * v14) + (3 : Int32)) n8 ∧ (J35 (v14 + (1 : Int32)) (upd (upd (upd f17 (((3 : Int32) * v14) + (1 : Int32)).toNatClampNeg j21) (((3 : Int32) * v14) + (2 : Int32)).toNatClampNeg v13) (((3 : Int32) * v14) + (3 : Int32)).toNatClampNeg v12)))))))) n21x (0 : Int32)) → J20 j21) → ((0 ≤ v12 → (vp_in (((4 : Int32) * ((f17 (((3 : Int32) * v13) + (1 : Int32)).toNatClampNeg) / (32 : Int32))) + v12) na1 ∧ (vp_in (((4 : Int32) * ((f17 (((3 : Int32) * v13) + (1 : Int32)).toNatClampNeg) - (f17 (((3 : Int32) * v13) + (1 : Int32)).toNatClampNeg) / (32 : Int32) * (32 : Int32))) + v12) na2 ∧ (J20 (((fa1 (((4 : Int32) * ((f17 (((3 : Int32) * v13) + (1 : Int32)).toNatClampNeg) / (32 : Int32))) + v12).toNatClampNeg) * (32 : Int32)) + (fa2 (((4 : Int32) * ((f17 (((3 : Int32) * v13) + (1 : Int32)).toNatClampNeg) - (f17 (((3 : Int32) * v13) + (1 : Int32)).toNatClampNeg) / (32 : Int32) * (32 : Int32))) + v12).toNatClampNeg)))))) ∧ (¬ 0 ≤ v12 → (J20 (f17 (((3 : Int32) * v13) + (1 : Int32)).toNatClampNeg))))))) at h
          refine lv_iload hx hb dX11_met_27 (lv_at hl 0 rfl) ?_
          refine lv_iconst (v := (3 : Int32)) hx hb dX11_met_29 (by decide) ?_
          refine lv_icmp_ge (tgt := 199) hx hb dX11_met_30 (by decide) (fun c18 => ?_) (fun c18 => ?_)
          · have h := h.1 c18
            exact hK199 v14 f17 H locs ls hw (lv_sub hl [1, 2, 3, 4, 5, 6, 7] rfl) h
          have h := h.2 c18
          refine lv_aload hx hb dX11_met_33 (lv_at hl 3 rfl) ?_
          refine lv_iconst (v := (3 : Int32)) hx hb dX11_met_35 (by decide) ?_
          refine lv_iload hx hb dX11_met_36 (lv_at hl 1 rfl) ?_
          refine lv_imul hx hb dX11_met_38 ?_
          refine lv_iconst (v := (1 : Int32)) hx hb dX11_met_39 (by decide) ?_
          refine lv_iadd hx hb dX11_met_40 ?_
          obtain ⟨z19, h⟩ := h
          refine n_iald hx hb hK (hw.n (j := 0) rfl) z19 dX11_met_41 ?_
          refine lv_istore (lv' := [(8, .int (f17 (((3 : Int32) * v13) + (1 : Int32)).toNatClampNeg)), (7, .int v12), (6, .int v13), (5, .int v14), (4, .ref q2), (0, .ref qa1), (1, .ref qa2), (2, .int v15), (3, .int v16)]) hx hb dX11_met_42 hl (by decide) rfl (fun ls hl => ?_)
          refine lv_iload hx hb dX11_met_44 (lv_at hl 1 rfl) ?_
          have h := h (fun (j21 : Int32) => ∀ (H : Heap) (locs : List Loc) (ls : Array Slot), MW D [] [eI cI q2 n8 f17] (SA s.heap.size) s H locs → lv_has ls 11 [(7, .int v12), (6, .int v13), (5, .int v14), (4, .ref q2), (0, .ref qa1), (1, .ref qa2), (2, .int v15), (3, .int v16)] → W p l e (RA 1 1 604) s m #[.ref qa1, .ref qa2, .int a3, .int a4] below meth c H locs 1 604 Z (F0 m 82 ls [.int j21])) (fun j21 h H locs ls hw hl => by
            refine lv_istore (lv' := [(9, .int j21), (7, .int v12), (6, .int v13), (5, .int v14), (4, .ref q2), (0, .ref qa1), (1, .ref qa2), (2, .int v15), (3, .int v16)]) hx hb dX11_met_82 hl (by decide) rfl (fun ls hl => ?_)
            refine lv_iconst (v := (0 : Int32)) hx hb dX11_met_84 (by decide) ?_
            refine lv_istore (lv' := [(10, .int (0 : Int32)), (9, .int j21), (7, .int v12), (6, .int v13), (5, .int v14), (4, .ref q2), (0, .ref qa1), (1, .ref qa2), (2, .int v15), (3, .int v16)]) hx hb dX11_met_85 hl (by decide) rfl (fun ls hl => ?_)
            obtain ⟨n33, h⟩ := h
            have L21 : ∀ (v24 : Int32) (v25 : Int32) (v26 : Int32) (v27 : Int32) (v28 : Int32) (v29 : Int32) (K114 : Int32 → Prop), (∀ (v23 : Int32), ∀ (H : Heap) (locs : List Loc) (ls : Array Slot), MW D [] [eI cI q2 n8 f17] (SA s.heap.size) s H locs → lv_has ls 11 [(10, .int v23), (9, .int v24), (7, .int v25), (6, .int v26), (5, .int v27), (4, .ref q2), (0, .ref qa1), (1, .ref qa2), (2, .int v28), (3, .int v29)] → K114 v23 → W p l e (RA 1 1 604) s m #[.ref qa1, .ref qa2, .int a3, .int a4] below meth c H locs 1 604 Z (F0 m 114 ls [])) → ∀ (n : Nat), ∀ (v23 : Int32), ∀ (H : Heap) (locs : List Loc) (ls : Array Slot), MW D [] [eI cI q2 n8 f17] (SA s.heap.size) s H locs → lv_has ls 11 [(10, .int v23), (9, .int v24), (7, .int v25), (6, .int v26), (5, .int v27), (4, .ref q2), (0, .ref qa1), (1, .ref qa2), (2, .int v28), (3, .int v29)] → wpl_X11_met_87 fa1 na1 fa2 na2 f17 n8 v24 v25 v26 v27 v28 v29 K114 n v23 → W p l e (RA 1 1 604) s m #[.ref qa1, .ref qa2, .int a3, .int a4] below meth c H locs 1 604 Z (F0 m 87 ls []) := by
              intro v24 v25 v26 v27 v28 v29 K114 hK114
              intro n
              induction n with
              | zero => intro v23 H locs ls hw hl h; exact False.elim h
              | succ n ih21 =>
                intro v23 H locs ls hw hl h
                change (v27 ≤ v23 → (K114 v23)) ∧ (¬ v27 ≤ v23 → (vp_in (((3 : Int32) * v23) + (1 : Int32)) n8 ∧ (((f17 (((3 : Int32) * v23) + (1 : Int32)).toNatClampNeg) = v24 → (K114 v23)) ∧ (¬ (f17 (((3 : Int32) * v23) + (1 : Int32)).toNatClampNeg) = v24 → (wpl_X11_met_87 fa1 na1 fa2 na2 f17 n8 v24 v25 v26 v27 v28 v29 K114 n (v23 + (1 : Int32))))))) at h
                refine lv_iload hx hb dX11_met_87 (lv_at hl 0 rfl) ?_
                refine lv_iload hx hb dX11_met_89 (lv_at hl 4 rfl) ?_
                refine lv_icmp_ge (tgt := 114) hx hb dX11_met_91 (by decide) (fun c30 => ?_) (fun c30 => ?_)
                · have h := h.1 c30
                  exact hK114 v23 H locs ls hw (lv_sub hl [0, 1, 2, 3, 4, 5, 6, 7, 8, 9] rfl) h
                have h := h.2 c30
                refine lv_aload hx hb dX11_met_94 (lv_at hl 5 rfl) ?_
                refine lv_iconst (v := (3 : Int32)) hx hb dX11_met_96 (by decide) ?_
                refine lv_iload hx hb dX11_met_97 (lv_at hl 0 rfl) ?_
                refine lv_imul hx hb dX11_met_99 ?_
                refine lv_iconst (v := (1 : Int32)) hx hb dX11_met_100 (by decide) ?_
                refine lv_iadd hx hb dX11_met_101 ?_
                obtain ⟨z31, h⟩ := h
                refine n_iald hx hb hK (hw.n (j := 0) rfl) z31 dX11_met_102 ?_
                refine lv_iload hx hb dX11_met_103 (lv_at hl 1 rfl) ?_
                refine lv_icmp_eq (tgt := 114) hx hb dX11_met_105 (by decide) (fun c32 => ?_) (fun c32 => ?_)
                · have h := h.1 c32
                  exact hK114 v23 H locs ls hw (lv_sub hl [0, 1, 2, 3, 4, 5, 6, 7, 8, 9] rfl) h
                have h := h.2 c32
                refine lv_iinc (v := (v23 + (1 : Int32))) (lv' := [(10, .int (v23 + (1 : Int32))), (9, .int v24), (7, .int v25), (6, .int v26), (5, .int v27), (4, .ref q2), (0, .ref qa1), (1, .ref qa2), (2, .int v28), (3, .int v29)]) hx hb dX11_met_108 hl (k := 0) rfl rfl (by decide) rfl (fun ls hl => ?_)
                refine lv_goto (tgt := 87) hx hb dX11_met_111 (by decide) ?_
                exact ih21 (v23 + (1 : Int32)) H locs ls hw (lv_sub hl [0, 1, 2, 3, 4, 5, 6, 7, 8, 9] rfl) h
            refine L21 j21 v12 v13 v14 v15 v16 _ ?_ n33 (0 : Int32) H locs ls hw (lv_sub hl [0, 1, 2, 3, 4, 5, 6, 7, 8, 9] rfl) h
            intro u34 H locs ls hw hl h
            refine lv_iload hx hb dX11_met_114 (lv_at hl 0 rfl) ?_
            refine lv_iload hx hb dX11_met_116 (lv_at hl 4 rfl) ?_
            have h := h (fun (j36 : Int32) (f37 : Nat → Int32) => ∀ (H : Heap) (locs : List Loc) (ls : Array Slot), MW D [] [eI cI q2 n8 f37] (SA s.heap.size) s H locs → lv_has ls 11 [(7, .int v12), (6, .int v13), (5, .int j36), (4, .ref q2), (0, .ref qa1), (1, .ref qa2), (2, .int v15), (3, .int v16)] → W p l e (RA 1 1 604) s m #[.ref qa1, .ref qa2, .int a3, .int a4] below meth c H locs 1 604 Z (F0 m 157 ls [])) (fun j36 f37 h H locs ls hw hl => by
              refine lv_aload hx hb dX11_met_157 (lv_at hl 3 rfl) ?_
              refine lv_iconst (v := (0 : Int32)) hx hb dX11_met_159 (by decide) ?_
              refine lv_iload hx hb dX11_met_160 (lv_at hl 2 rfl) ?_
              obtain ⟨z38, h⟩ := h
              refine n_iast (j := 0) hx hb hK hw rfl z38 dX11_met_162 (fun H locs hw => ?_)
              have hw : MW D [] [eI cI q2 n8 (upd f37 (0 : Int32).toNatClampNeg j36)] (SA s.heap.size) s H locs := hw
              refine lv_iload hx hb dX11_met_163 (lv_at hl 2 rfl) ?_
              refine lv_iload_n hx hb dX11_met_165 rfl (lv_at hl 6 rfl) ?_
              refine lv_icmp_gt (tgt := 190) hx hb dX11_met_166 (by decide) (fun c39 => ?_) (fun c39 => ?_)
              · have h := h.1 c39
                refine lv_aload hx hb dX11_met_190 (lv_at hl 3 rfl) ?_
                exact hret H locs ls 192 _ _ _ 0 _ _ _ hw rfl hq2 ⟨_, _, rfl, h⟩ (show 1 ≤ 1 by omega) (show 604 ≤ 604 by omega) dX11_met_192
              have h := h.2 c39
              refine lv_iload_n hx hb dX11_met_169 rfl (lv_at hl 7 rfl) ?_
              refine lv_if_eq (tgt := 193) hx hb dX11_met_170 (by decide) (fun c40 => ?_) (fun c40 => ?_)
              · have h := h.1 c40
                refine lv_iinc (v := (v12 + (1 : Int32))) (lv' := [(7, .int (v12 + (1 : Int32))), (6, .int v13), (5, .int j36), (4, .ref q2), (0, .ref qa1), (1, .ref qa2), (2, .int v15), (3, .int v16)]) hx hb dX11_met_193 hl (k := 0) rfl rfl (by decide) rfl (fun ls hl => ?_)
                refine lv_goto (tgt := 27) hx hb dX11_met_196 (by decide) ?_
                exact ih10 (v12 + (1 : Int32)) j36 (upd f37 (0 : Int32).toNatClampNeg j36) H locs ls hw (lv_sub hl [0, 1, 2, 3, 4, 5, 6, 7] rfl) h
              have h := h.2 c40
              refine lv_aload_n hx hb dX11_met_173 rfl (lv_at hl 4 rfl) ?_
              refine lv_aload_n hx hb dX11_met_174 rfl (lv_at hl 5 rfl) ?_
              refine lv_aload hx hb dX11_met_175 (lv_at hl 3 rfl) ?_
              refine lv_iconst (v := (3 : Int32)) hx hb dX11_met_177 (by decide) ?_
              refine lv_iload hx hb dX11_met_178 (lv_at hl 2 rfl) ?_
              refine lv_imul hx hb dX11_met_180 ?_
              refine lv_iconst (v := (2 : Int32)) hx hb dX11_met_181 (by decide) ?_
              refine lv_isub hx hb dX11_met_182 ?_
              obtain ⟨z41, h⟩ := h
              refine n_iald hx hb hK (hw.n (j := 0) rfl) z41 dX11_met_183 ?_
              refine S_calli hw (va_runS (own := "LeastreaderModel") (As := [.ref qa1, .ref qa2, .int ((upd f37 (0 : Int32).toNatClampNeg j36) (((3 : Int32) * j36) - (2 : Int32)).toNatClampNeg)]) (rest := []) ⟨hx, hb, hml, hown, ht⟩ (c_X11_isUnlike qa1 qa2 H.size na1 fa1 na2 fa2 ((upd f37 (0 : Int32).toNatClampNeg j36) (((3 : Int32) * j36) - (2 : Int32)).toNatClampNeg) h) (va_cwS 3 ht (G_S q_1494 q_1495 q_56 q_1496) rfl rfl rfl hd_89 ⟨Nat.le_of_ble_eq_true rfl, Nat.le_of_ble_eq_true rfl⟩) ⟨SB.blind, SB.pre hK (va_Pc2 (hw.arg hL0 hB0) (va_Pc2 (hw.arg hL1 hB1) va_P0))⟩ rfl rfl hl.1 rfl (lv_room (Nat.le_of_ble_eq_true rfl)) dX11_met_184 ⟨show 1 + 0 ≤ 1 by omega, show 604 + 0 ≤ 604 by omega⟩) (fun r42 H locs h hw => ?_)
              refine lv_if_eq (tgt := 193) hx hb dX11_met_187 (by decide) (fun c43 => ?_) (fun c43 => ?_)
              · have h := h.1 c43
                refine lv_iinc (v := (v12 + (1 : Int32))) (lv' := [(7, .int (v12 + (1 : Int32))), (6, .int v13), (5, .int j36), (4, .ref q2), (0, .ref qa1), (1, .ref qa2), (2, .int v15), (3, .int v16)]) hx hb dX11_met_193 hl (k := 0) rfl rfl (by decide) rfl (fun ls hl => ?_)
                refine lv_goto (tgt := 27) hx hb dX11_met_196 (by decide) ?_
                exact ih10 (v12 + (1 : Int32)) j36 (upd f37 (0 : Int32).toNatClampNeg j36) H locs ls hw (lv_sub hl [0, 1, 2, 3, 4, 5, 6, 7] rfl) h
              have h := h.2 c43
              refine lv_aload hx hb dX11_met_190 (lv_at hl 3 rfl) ?_
              exact hret H locs ls 192 _ _ _ 0 _ _ _ hw rfl hq2 ⟨_, _, rfl, h⟩ (show 1 ≤ 1 by omega) (show 604 ≤ 604 by omega) dX11_met_192)
            refine lv_icmp_ne (tgt := 157) hx hb dX11_met_118 (by decide) (fun c44 => ?_) (fun c44 => ?_)
            · have h := h.1 c44
              exact h H locs ls hw (lv_sub hl [2, 3, 4, 5, 6, 7, 8, 9] rfl)
            have h := h.2 c44
            refine lv_aload hx hb dX11_met_121 (lv_at hl 5 rfl) ?_
            refine lv_iconst (v := (3 : Int32)) hx hb dX11_met_123 (by decide) ?_
            refine lv_iload hx hb dX11_met_124 (lv_at hl 4 rfl) ?_
            refine lv_imul hx hb dX11_met_126 ?_
            refine lv_iconst (v := (1 : Int32)) hx hb dX11_met_127 (by decide) ?_
            refine lv_iadd hx hb dX11_met_128 ?_
            refine lv_iload hx hb dX11_met_129 (lv_at hl 1 rfl) ?_
            obtain ⟨z45, h⟩ := h
            refine n_iast (j := 0) hx hb hK hw rfl z45 dX11_met_131 (fun H locs hw => ?_)
            have hw : MW D [] [eI cI q2 n8 (upd f17 (((3 : Int32) * v14) + (1 : Int32)).toNatClampNeg j21)] (SA s.heap.size) s H locs := hw
            refine lv_aload hx hb dX11_met_132 (lv_at hl 5 rfl) ?_
            refine lv_iconst (v := (3 : Int32)) hx hb dX11_met_134 (by decide) ?_
            refine lv_iload hx hb dX11_met_135 (lv_at hl 4 rfl) ?_
            refine lv_imul hx hb dX11_met_137 ?_
            refine lv_iconst (v := (2 : Int32)) hx hb dX11_met_138 (by decide) ?_
            refine lv_iadd hx hb dX11_met_139 ?_
            refine lv_iload hx hb dX11_met_140 (lv_at hl 3 rfl) ?_
            obtain ⟨z46, h⟩ := h
            refine n_iast (j := 0) hx hb hK hw rfl z46 dX11_met_142 (fun H locs hw => ?_)
            have hw : MW D [] [eI cI q2 n8 (upd (upd f17 (((3 : Int32) * v14) + (1 : Int32)).toNatClampNeg j21) (((3 : Int32) * v14) + (2 : Int32)).toNatClampNeg v13)] (SA s.heap.size) s H locs := hw
            refine lv_aload hx hb dX11_met_143 (lv_at hl 5 rfl) ?_
            refine lv_iconst (v := (3 : Int32)) hx hb dX11_met_145 (by decide) ?_
            refine lv_iload hx hb dX11_met_146 (lv_at hl 4 rfl) ?_
            refine lv_imul hx hb dX11_met_148 ?_
            refine lv_iconst (v := (3 : Int32)) hx hb dX11_met_149 (by decide) ?_
            refine lv_iadd hx hb dX11_met_150 ?_
            refine lv_iload hx hb dX11_met_151 (lv_at hl 2 rfl) ?_
            obtain ⟨z47, h⟩ := h
            refine n_iast (j := 0) hx hb hK hw rfl z47 dX11_met_153 (fun H locs hw => ?_)
            have hw : MW D [] [eI cI q2 n8 (upd (upd (upd f17 (((3 : Int32) * v14) + (1 : Int32)).toNatClampNeg j21) (((3 : Int32) * v14) + (2 : Int32)).toNatClampNeg v13) (((3 : Int32) * v14) + (3 : Int32)).toNatClampNeg v12)] (SA s.heap.size) s H locs := hw
            refine lv_iinc (v := (v14 + (1 : Int32))) (lv' := [(5, .int (v14 + (1 : Int32))), (10, .int u34), (9, .int j21), (7, .int v12), (6, .int v13), (4, .ref q2), (0, .ref qa1), (1, .ref qa2), (2, .int v15), (3, .int v16)]) hx hb dX11_met_154 hl (k := 4) rfl rfl (by decide) rfl (fun ls hl => ?_)
            exact h H locs ls hw (lv_sub hl [3, 4, 0, 5, 6, 7, 8, 9] rfl))
          refine lv_if_ge (tgt := 54) hx hb dX11_met_46 (by decide) (fun c48 => ?_) (fun c48 => ?_)
          · have h := h.1 c48
            refine lv_aload_n hx hb dX11_met_54 rfl (lv_at hl 5 rfl) ?_
            refine lv_iconst (v := (4 : Int32)) hx hb dX11_met_55 (by decide) ?_
            refine lv_iload hx hb dX11_met_56 (lv_at hl 0 rfl) ?_
            refine lv_bipush (v := (32 : Int32)) hx hb dX11_met_58 (by decide) ?_
            refine lv_idiv hx hb dX11_met_60 (by decide) ?_
            refine lv_imul hx hb dX11_met_61 ?_
            refine lv_iload hx hb dX11_met_62 (lv_at hl 1 rfl) ?_
            refine lv_iadd hx hb dX11_met_64 ?_
            obtain ⟨z49, h⟩ := h
            refine n_iald hx hb hK (hw.arg hL0 hB0) z49 dX11_met_65 ?_
            refine lv_bipush (v := (32 : Int32)) hx hb dX11_met_66 (by decide) ?_
            refine lv_imul hx hb dX11_met_68 ?_
            refine lv_aload_n hx hb dX11_met_69 rfl (lv_at hl 6 rfl) ?_
            refine lv_iconst (v := (4 : Int32)) hx hb dX11_met_70 (by decide) ?_
            refine lv_iload hx hb dX11_met_71 (lv_at hl 0 rfl) ?_
            refine lv_bipush (v := (32 : Int32)) hx hb dX11_met_73 (by decide) ?_
            refine lv_irem hx hb dX11_met_75 (by decide) ?_
            refine lv_imul hx hb dX11_met_76 ?_
            refine lv_iload hx hb dX11_met_77 (lv_at hl 1 rfl) ?_
            refine lv_iadd hx hb dX11_met_79 ?_
            obtain ⟨z50, h⟩ := h
            refine n_iald hx hb hK (hw.arg hL1 hB1) z50 dX11_met_80 ?_
            refine lv_iadd hx hb dX11_met_81 ?_
            exact h H locs ls hw (lv_sub hl [1, 2, 3, 4, 5, 6, 7, 8] rfl)
          have h := h.2 c48
          refine lv_iload hx hb dX11_met_49 (lv_at hl 0 rfl) ?_
          refine lv_goto (tgt := 82) hx hb dX11_met_51 (by decide) ?_
          exact h H locs ls hw (lv_sub hl [1, 2, 3, 4, 5, 6, 7, 8] rfl)
      refine L10 v4 v6 v7 _ ?_ n51 (-1 : Int32) v5 f9 H locs ls hw (lv_sub hl [0, 1, 2, 3, 4, 5, 6, 7] rfl) h
      intro u52 f53 H locs ls hw hl h
      refine lv_iinc (v := (v4 + (1 : Int32))) (lv' := [(6, .int (v4 + (1 : Int32))), (5, .int u52), (4, .ref q2), (0, .ref qa1), (1, .ref qa2), (2, .int v6), (3, .int v7)]) hx hb dX11_met_199 hl (k := 0) rfl rfl (by decide) rfl (fun ls hl => ?_)
      refine lv_goto (tgt := 17) hx hb dX11_met_202 (by decide) ?_
      exact ih2 (v4 + (1 : Int32)) u52 f53 H locs ls hw (lv_sub hl [0, 1, 2, 3, 4, 5, 6] rfl) h
  exact L2 ((((3 : Int32) * (a3 + (1 : Int32))) + (1 : Int32)).toNatClampNeg) a3 a4 n54 (0 : Int32) (1 : Int32) (fun _ => 0) H locs ls hw (lv_sub hl [0, 1, 2, 3, 4, 5, 6] rfl) h
