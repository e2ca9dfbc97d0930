set_option maxHeartbeats 4000000 in
set_option maxRecDepth 100000 in
theorem law_11 {p : Program} {l : Launch} {e : Env} {s : State} {m : MethodId} {b : Nat} {below : List Frame} {meth : Method} {c : Code} {L : Nat} {xs : Nat → Int32} {D : va_G} {ad bd : Nat → Nat} {cI cL cM cB : ClassId} {q : Nat} {Z : State → Prop} {JI : TMem → TMem → Prop} {i : Int32} {cv sv : Nat} (hRI : ∀ {μ ν : TMem}, JI μ ν → RI ν) (hGM : GM_make JI) (C0 : LC p l s m b c L xs D ad bd cI cL cM cB) (hi : 0 ≤ i.toInt) (hiL : i.toInt + 6 ≤ L) (hcv : cv + 2000 ≤ 600128) (hsv : sv + 112000 ≤ 7301098) (hJ3 : LJ p l e s m b below meth c D ad bd cI cM q Z JI i (cv + 2000) (sv + 112000) 1572) : LJ p l e s m b below meth c D ad bd cI cM q Z JI i cv sv 769 := by
  obtain ⟨hx, hb, hml, hown, ht, hg, hI, hJ, hXs, hbl, hst, hL⟩ := C0
  have hN : NW s := hg.2.2.2.2.1
  have hbA : ¬ SA s.heap.size b := Nat.not_le.mpr hbl
  intro μ ν nv sw H locs ls hJI hw hl
  have hi1 : (i + (1 : Int32)).toInt = i.toInt + 1 := ii_a rfl (show (1 : Int32).toInt = 1 from rfl) (by omega) (by omega)
  have hi2 : (i + (2 : Int32)).toInt = i.toInt + 2 := ii_a rfl (show (2 : Int32).toInt = 2 from rfl) (by omega) (by omega)
  have hi3 : (i + (3 : Int32)).toInt = i.toInt + 3 := ii_a rfl (show (3 : Int32).toInt = 3 from rfl) (by omega) (by omega)
  have hi4 : (i + (4 : Int32)).toInt = i.toInt + 4 := ii_a rfl (show (4 : Int32).toInt = 4 from rfl) (by omega) (by omega)
  have hi5 : (i + (5 : Int32)).toInt = i.toInt + 5 := ii_a rfl (show (5 : Int32).toInt = 5 from rfl) (by omega) (by omega)
  have hv0 : vp_in i L := vin (by omega)
  have hv1 : vp_in (i + (1 : Int32)) L := vin (by omega)
  have hv2 : vp_in (i + (2 : Int32)) L := vin (by omega)
  have hv3 : vp_in (i + (3 : Int32)) L := vin (by omega)
  have hv4 : vp_in (i + (4 : Int32)) L := vin (by omega)
  have hv5 : vp_in (i + (5 : Int32)) L := vin (by omega)
  refine lv_aload_n hx hb dL_law_769 rfl (lv_at hl 1 rfl) ?_
  refine lv_aload_n hx hb dL_law_770 rfl (lv_at hl 0 rfl) ?_
  refine lv_iload hx hb dL_law_771 (lv_at hl 4 rfl) ?_
  refine lv_iconst (v := (1 : Int32)) hx hb dL_law_773 (by decide) ?_
  refine lv_iadd hx hb dL_law_774 ?_
  refine va_sld hx hb hXs hbl hbA hw.2.2.1 (i := (i + (1 : Int32))) hv1 dL_law_775 ?_
  refine lv_aload_n hx hb dL_law_776 rfl (lv_at hl 0 rfl) ?_
  refine lv_iload hx hb dL_law_777 (lv_at hl 4 rfl) ?_
  refine lv_iconst (v := (2 : Int32)) hx hb dL_law_779 (by decide) ?_
  refine lv_iadd hx hb dL_law_780 ?_
  refine va_sld hx hb hXs hbl hbA hw.2.2.1 (i := (i + (2 : Int32))) hv2 dL_law_781 ?_
  refine lv_if_eq (tgt := 789) hx hb dL_law_782 (by decide) (fun c9 => ?_) (fun c9 => ?_)
  · have kb1 := c9
    refine lv_iconst (v := (0 : Int32)) hx hb dL_law_789 (by decide) ?_
    refine lv_aload_n hx hb dL_law_790 rfl (lv_at hl 0 rfl) ?_
    refine lv_iload hx hb dL_law_791 (lv_at hl 4 rfl) ?_
    refine lv_iconst (v := (3 : Int32)) hx hb dL_law_793 (by decide) ?_
    refine lv_iadd hx hb dL_law_794 ?_
    refine va_sld hx hb hXs hbl hbA hw.2.2.1 (i := (i + (3 : Int32))) hv3 dL_law_795 ?_
    refine lv_aload_n hx hb dL_law_796 rfl (lv_at hl 3 rfl) ?_
    refine LL_call hw hI (vx_runSX (own := "LeastreaderLaw") (As := [.ref (ad 0), .int (xs (i + (1 : Int32)).toNatClampNeg), .int (0 : Int32), .int (xs (i + (3 : Int32)).toNatClampNeg), .ref q]) (rest := []) ⟨hx, hb, hml, hown, ht⟩ (c_L_make hst q nv sw μ H.size (xs (i + (1 : Int32)).toNatClampNeg) (0 : Int32) (xs (i + (3 : Int32)).toNatClampNeg) (PW := fun k u => RW_make JI ν (xs (i + (1 : Int32)).toNatClampNeg) (0 : Int32) (xs (i + (3 : Int32)).toNatClampNeg) k u.2.1 u.1) (hGM μ ν nv (xs (i + (1 : Int32)).toNatClampNeg) (0 : Int32) (xs (i + (3 : Int32)).toNatClampNeg) hJI)) (vx_cwSW 5 ht (G_S q_762 q_763 q_45 q_764) rfl rfl rfl vd_50 ⟨Nat.le_of_ble_eq_true rfl, Nat.le_of_ble_eq_true rfl⟩) ⟨LB.blind, hg.lb hI hw⟩ rfl rfl hl.1 rfl (lv_room (Nat.le_of_ble_eq_true rfl)) dL_law_797 ⟨show cv + 2 ≤ 600128 by omega, show sv + 12 ≤ 7301098 by omega⟩) (fun r2 μ2 nv2 sw2 H locs hq2 hw => ?_)
    refine lv_istore (lv' := [(5, .int r2), (0, .ref b), (1, .ref (ad 0)), (2, .ref (bd 0)), (3, .ref q), (4, .int i)]) hx hb dL_law_800 hl (by decide) rfl (fun ls hl => ?_)
    refine lv_aload_n hx hb dL_law_802 rfl (lv_at hl 3 rfl) ?_
    refine lv_aload_n hx hb dL_law_803 rfl (lv_at hl 1 rfl) ?_
    refine lv_iload hx hb dL_law_804 (lv_at hl 5 rfl) ?_
    refine lv_iconst (v := (1 : Int32)) hx hb dL_law_806 (by decide) ?_
    refine lv_iadd hx hb dL_law_807 ?_
    refine va_sld hx hb hXs hbl hbA hw.2.2.1 (i := (i + (1 : Int32))) hv1 dL_law_808 ?_
    refine lv_aload_n hx hb dL_law_809 rfl (lv_at hl 1 rfl) ?_
    refine lv_iload hx hb dL_law_810 (lv_at hl 5 rfl) ?_
    refine lv_iconst (v := (2 : Int32)) hx hb dL_law_812 (by decide) ?_
    refine lv_iadd hx hb dL_law_813 ?_
    refine va_sld hx hb hXs hbl hbA hw.2.2.1 (i := (i + (2 : Int32))) hv2 dL_law_814 ?_
    refine lv_if_eq (tgt := 822) hx hb dL_law_815 (by decide) (fun c9 => ?_) (fun c9 => absurd kb1 c9)
    refine lv_iconst (v := (0 : Int32)) hx hb dL_law_822 (by decide) ?_
    refine lv_aload_n hx hb dL_law_823 rfl (lv_at hl 1 rfl) ?_
    refine lv_iload hx hb dL_law_824 (lv_at hl 5 rfl) ?_
    refine lv_iconst (v := (3 : Int32)) hx hb dL_law_826 (by decide) ?_
    refine lv_iadd hx hb dL_law_827 ?_
    refine va_sld hx hb hXs hbl hbA hw.2.2.1 (i := (i + (3 : Int32))) hv3 dL_law_828 ?_
    refine M_calli hw (LZ_MA hw) (va_runV (own := "LeastreaderLaw") (As := [.int (xs (i + (1 : Int32)).toNatClampNeg), .int (0 : Int32), .int (xs (i + (3 : Int32)).toNatClampNeg)]) (rest := []) ⟨hx, hb, hml, hown, ht⟩ (c_X11_make ν H.size (xs (i + (1 : Int32)).toNatClampNeg) (0 : Int32) (xs (i + (3 : Int32)).toNatClampNeg) hq2) (cwV 3 ht (G_V q_1448 q_1449 q_1450 q_56 q_1451) rfl rfl rfl ⟨rfl, vd_51⟩ ⟨Nat.le_of_ble_eq_true rfl, Nat.le_of_ble_eq_true rfl⟩) ⟨MB.blind, M_recv hg.2.1 hw, MB.pre hg.2.1 hJ hw va_P0 ne0⟩ rfl rfl hl.1 rfl (lv_room (Nat.le_of_ble_eq_true rfl)) dL_law_829 ⟨show cv + 2 + 41 ≤ 600128 by omega, show sv + 12 + 1685 ≤ 7301098 by omega⟩) (fun r3 ν3 H locs hf3 hw => ?_)
    refine lv_istore (lv' := [(6, .int r3), (5, .int r2), (0, .ref b), (1, .ref (ad 0)), (2, .ref (bd 0)), (3, .ref q), (4, .int i)]) hx hb dL_law_832 hl (by decide) rfl (fun ls hl => ?_)
    refine lv_goto (tgt := 1572) hx hb dL_law_834 (by decide) ?_
    refine W.widen (show cv + 2 + 41 ≤ cv + 2000 by omega) (show sv + 12 + 1685 ≤ sv + 112000 by omega) ?_
    exact hJ3 μ2 ν3 nv2 sw2 H locs ls hf3 hw (lv_sub hl [2, 3, 4, 5, 6] rfl)
  · have kb1 := c9
    refine lv_iconst (v := (1 : Int32)) hx hb dL_law_785 (by decide) ?_
    refine lv_goto (tgt := 790) hx hb dL_law_786 (by decide) ?_
    refine lv_aload_n hx hb dL_law_790 rfl (lv_at hl 0 rfl) ?_
    refine lv_iload hx hb dL_law_791 (lv_at hl 4 rfl) ?_
    refine lv_iconst (v := (3 : Int32)) hx hb dL_law_793 (by decide) ?_
    refine lv_iadd hx hb dL_law_794 ?_
    refine va_sld hx hb hXs hbl hbA hw.2.2.1 (i := (i + (3 : Int32))) hv3 dL_law_795 ?_
    refine lv_aload_n hx hb dL_law_796 rfl (lv_at hl 3 rfl) ?_
    refine LL_call hw hI (vx_runSX (own := "LeastreaderLaw") (As := [.ref (ad 0), .int (xs (i + (1 : Int32)).toNatClampNeg), .int (1 : Int32), .int (xs (i + (3 : Int32)).toNatClampNeg), .ref q]) (rest := []) ⟨hx, hb, hml, hown, ht⟩ (c_L_make hst q nv sw μ H.size (xs (i + (1 : Int32)).toNatClampNeg) (1 : Int32) (xs (i + (3 : Int32)).toNatClampNeg) (PW := fun k u => RW_make JI ν (xs (i + (1 : Int32)).toNatClampNeg) (1 : Int32) (xs (i + (3 : Int32)).toNatClampNeg) k u.2.1 u.1) (hGM μ ν nv (xs (i + (1 : Int32)).toNatClampNeg) (1 : Int32) (xs (i + (3 : Int32)).toNatClampNeg) hJI)) (vx_cwSW 5 ht (G_S q_762 q_763 q_45 q_764) rfl rfl rfl vd_50 ⟨Nat.le_of_ble_eq_true rfl, Nat.le_of_ble_eq_true rfl⟩) ⟨LB.blind, hg.lb hI hw⟩ rfl rfl hl.1 rfl (lv_room (Nat.le_of_ble_eq_true rfl)) dL_law_797 ⟨show cv + 2 ≤ 600128 by omega, show sv + 12 ≤ 7301098 by omega⟩) (fun r4 μ4 nv4 sw4 H locs hq4 hw => ?_)
    refine lv_istore (lv' := [(5, .int r4), (0, .ref b), (1, .ref (ad 0)), (2, .ref (bd 0)), (3, .ref q), (4, .int i)]) hx hb dL_law_800 hl (by decide) rfl (fun ls hl => ?_)
    refine lv_aload_n hx hb dL_law_802 rfl (lv_at hl 3 rfl) ?_
    refine lv_aload_n hx hb dL_law_803 rfl (lv_at hl 1 rfl) ?_
    refine lv_iload hx hb dL_law_804 (lv_at hl 5 rfl) ?_
    refine lv_iconst (v := (1 : Int32)) hx hb dL_law_806 (by decide) ?_
    refine lv_iadd hx hb dL_law_807 ?_
    refine va_sld hx hb hXs hbl hbA hw.2.2.1 (i := (i + (1 : Int32))) hv1 dL_law_808 ?_
    refine lv_aload_n hx hb dL_law_809 rfl (lv_at hl 1 rfl) ?_
    refine lv_iload hx hb dL_law_810 (lv_at hl 5 rfl) ?_
    refine lv_iconst (v := (2 : Int32)) hx hb dL_law_812 (by decide) ?_
    refine lv_iadd hx hb dL_law_813 ?_
    refine va_sld hx hb hXs hbl hbA hw.2.2.1 (i := (i + (2 : Int32))) hv2 dL_law_814 ?_
    refine lv_if_eq (tgt := 822) hx hb dL_law_815 (by decide) (fun c9 => absurd c9 kb1) (fun c9 => ?_)
    refine lv_iconst (v := (1 : Int32)) hx hb dL_law_818 (by decide) ?_
    refine lv_goto (tgt := 823) hx hb dL_law_819 (by decide) ?_
    refine lv_aload_n hx hb dL_law_823 rfl (lv_at hl 1 rfl) ?_
    refine lv_iload hx hb dL_law_824 (lv_at hl 5 rfl) ?_
    refine lv_iconst (v := (3 : Int32)) hx hb dL_law_826 (by decide) ?_
    refine lv_iadd hx hb dL_law_827 ?_
    refine va_sld hx hb hXs hbl hbA hw.2.2.1 (i := (i + (3 : Int32))) hv3 dL_law_828 ?_
    refine M_calli hw (LZ_MA hw) (va_runV (own := "LeastreaderLaw") (As := [.int (xs (i + (1 : Int32)).toNatClampNeg), .int (1 : Int32), .int (xs (i + (3 : Int32)).toNatClampNeg)]) (rest := []) ⟨hx, hb, hml, hown, ht⟩ (c_X11_make ν H.size (xs (i + (1 : Int32)).toNatClampNeg) (1 : Int32) (xs (i + (3 : Int32)).toNatClampNeg) hq4) (cwV 3 ht (G_V q_1448 q_1449 q_1450 q_56 q_1451) rfl rfl rfl ⟨rfl, vd_51⟩ ⟨Nat.le_of_ble_eq_true rfl, Nat.le_of_ble_eq_true rfl⟩) ⟨MB.blind, M_recv hg.2.1 hw, MB.pre hg.2.1 hJ hw va_P0 ne0⟩ rfl rfl hl.1 rfl (lv_room (Nat.le_of_ble_eq_true rfl)) dL_law_829 ⟨show cv + 2 + 41 ≤ 600128 by omega, show sv + 12 + 1685 ≤ 7301098 by omega⟩) (fun r5 ν5 H locs hf5 hw => ?_)
    refine lv_istore (lv' := [(6, .int r5), (5, .int r4), (0, .ref b), (1, .ref (ad 0)), (2, .ref (bd 0)), (3, .ref q), (4, .int i)]) hx hb dL_law_832 hl (by decide) rfl (fun ls hl => ?_)
    refine lv_goto (tgt := 1572) hx hb dL_law_834 (by decide) ?_
    refine W.widen (show cv + 2 + 41 ≤ cv + 2000 by omega) (show sv + 12 + 1685 ≤ sv + 112000 by omega) ?_
    exact hJ3 μ4 ν5 nv4 sw4 H locs ls hf5 hw (lv_sub hl [2, 3, 4, 5, 6] rfl)
set_option maxHeartbeats 4000000 in
set_option maxRecDepth 100000 in
theorem law_12 {p : Program} {l : Launch} {e : Env} {s : State} {m : MethodId} {b : Nat} {below : List Frame} {meth : Method} {c : Code} {L : Nat} {xs : Nat → Int32} {D : va_G} {ad bd : Nat → Nat} {cI cL cM cB : ClassId} {q : Nat} {Z : State → Prop} {JI : TMem → TMem → Prop} {i : Int32} {cv sv : Nat} (hRI : ∀ {μ ν : TMem}, JI μ ν → RI ν) (hGM : GM_combine JI) (C0 : LC p l s m b c L xs D ad bd cI cL cM cB) (hi : 0 ≤ i.toInt) (hiL : i.toInt + 6 ≤ L) (hcv : cv + 2000 ≤ 600128) (hsv : sv + 112000 ≤ 7301098) (hJ3 : LJ p l e s m b below meth c D ad bd cI cM q Z JI i (cv + 2000) (sv + 112000) 1572) : LJ p l e s m b below meth c D ad bd cI cM q Z JI i cv sv 837 := by
  obtain ⟨hx, hb, hml, hown, ht, hg, hI, hJ, hXs, hbl, hst, hL⟩ := C0
  have hN : NW s := hg.2.2.2.2.1
  have hbA : ¬ SA s.heap.size b := Nat.not_le.mpr hbl
  intro μ ν nv sw H locs ls hJI hw hl
  have hi1 : (i + (1 : Int32)).toInt = i.toInt + 1 := ii_a rfl (show (1 : Int32).toInt = 1 from rfl) (by omega) (by omega)
  have hi2 : (i + (2 : Int32)).toInt = i.toInt + 2 := ii_a rfl (show (2 : Int32).toInt = 2 from rfl) (by omega) (by omega)
  have hi3 : (i + (3 : Int32)).toInt = i.toInt + 3 := ii_a rfl (show (3 : Int32).toInt = 3 from rfl) (by omega) (by omega)
  have hi4 : (i + (4 : Int32)).toInt = i.toInt + 4 := ii_a rfl (show (4 : Int32).toInt = 4 from rfl) (by omega) (by omega)
  have hi5 : (i + (5 : Int32)).toInt = i.toInt + 5 := ii_a rfl (show (5 : Int32).toInt = 5 from rfl) (by omega) (by omega)
  have hv0 : vp_in i L := vin (by omega)
  have hv1 : vp_in (i + (1 : Int32)) L := vin (by omega)
  have hv2 : vp_in (i + (2 : Int32)) L := vin (by omega)
  have hv3 : vp_in (i + (3 : Int32)) L := vin (by omega)
  have hv4 : vp_in (i + (4 : Int32)) L := vin (by omega)
  have hv5 : vp_in (i + (5 : Int32)) L := vin (by omega)
  refine lv_aload_n hx hb dL_law_837 rfl (lv_at hl 1 rfl) ?_
  refine lv_aload_n hx hb dL_law_838 rfl (lv_at hl 0 rfl) ?_
  refine lv_iload hx hb dL_law_839 (lv_at hl 4 rfl) ?_
  refine lv_iconst (v := (1 : Int32)) hx hb dL_law_841 (by decide) ?_
  refine lv_iadd hx hb dL_law_842 ?_
  refine va_sld hx hb hXs hbl hbA hw.2.2.1 (i := (i + (1 : Int32))) hv1 dL_law_843 ?_
  refine lv_aload_n hx hb dL_law_844 rfl (lv_at hl 0 rfl) ?_
  refine lv_iload hx hb dL_law_845 (lv_at hl 4 rfl) ?_
  refine lv_iconst (v := (2 : Int32)) hx hb dL_law_847 (by decide) ?_
  refine lv_iadd hx hb dL_law_848 ?_
  refine va_sld hx hb hXs hbl hbA hw.2.2.1 (i := (i + (2 : Int32))) hv2 dL_law_849 ?_
  refine lv_aload_n hx hb dL_law_850 rfl (lv_at hl 0 rfl) ?_
  refine lv_iload hx hb dL_law_851 (lv_at hl 4 rfl) ?_
  refine lv_iconst (v := (3 : Int32)) hx hb dL_law_853 (by decide) ?_
  refine lv_iadd hx hb dL_law_854 ?_
  refine va_sld hx hb hXs hbl hbA hw.2.2.1 (i := (i + (3 : Int32))) hv3 dL_law_855 ?_
  refine lv_aload_n hx hb dL_law_856 rfl (lv_at hl 0 rfl) ?_
  refine lv_iload hx hb dL_law_857 (lv_at hl 4 rfl) ?_
  refine lv_iconst (v := (4 : Int32)) hx hb dL_law_859 (by decide) ?_
  refine lv_iadd hx hb dL_law_860 ?_
  refine va_sld hx hb hXs hbl hbA hw.2.2.1 (i := (i + (4 : Int32))) hv4 dL_law_861 ?_
  refine lv_aload_n hx hb dL_law_862 rfl (lv_at hl 3 rfl) ?_
  refine LL_call hw hI (vx_runSX (own := "LeastreaderLaw") (As := [.ref (ad 0), .int (xs (i + (1 : Int32)).toNatClampNeg), .int (xs (i + (2 : Int32)).toNatClampNeg), .int (xs (i + (3 : Int32)).toNatClampNeg), .int (xs (i + (4 : Int32)).toNatClampNeg), .ref q]) (rest := []) ⟨hx, hb, hml, hown, ht⟩ (c_L_combine hst q nv sw μ H.size (xs (i + (1 : Int32)).toNatClampNeg) (xs (i + (2 : Int32)).toNatClampNeg) (xs (i + (3 : Int32)).toNatClampNeg) (xs (i + (4 : Int32)).toNatClampNeg) (PW := fun k u => RW_combine JI ν (xs (i + (1 : Int32)).toNatClampNeg) (xs (i + (2 : Int32)).toNatClampNeg) (xs (i + (3 : Int32)).toNatClampNeg) (xs (i + (4 : Int32)).toNatClampNeg) k u.2.1 u.1) (hGM μ ν nv (xs (i + (1 : Int32)).toNatClampNeg) (xs (i + (2 : Int32)).toNatClampNeg) (xs (i + (3 : Int32)).toNatClampNeg) (xs (i + (4 : Int32)).toNatClampNeg) hJI)) (vx_cwSW 6 ht (G_S q_773 q_774 q_45 q_775) rfl rfl rfl vd_52 ⟨Nat.le_of_ble_eq_true rfl, Nat.le_of_ble_eq_true rfl⟩) ⟨LB.blind, hg.lb hI hw⟩ rfl rfl hl.1 rfl (lv_room (Nat.le_of_ble_eq_true rfl)) dL_law_863 ⟨show cv + 4 ≤ 600128 by omega, show sv + 24 ≤ 7301098 by omega⟩) (fun r1 μ1 nv1 sw1 H locs hq1 hw => ?_)
  refine lv_istore (lv' := [(5, .int r1), (0, .ref b), (1, .ref (ad 0)), (2, .ref (bd 0)), (3, .ref q), (4, .int i)]) hx hb dL_law_866 hl (by decide) rfl (fun ls hl => ?_)
  refine lv_aload_n hx hb dL_law_868 rfl (lv_at hl 3 rfl) ?_
  refine lv_aload_n hx hb dL_law_869 rfl (lv_at hl 1 rfl) ?_
  refine lv_iload hx hb dL_law_870 (lv_at hl 5 rfl) ?_
  refine lv_iconst (v := (1 : Int32)) hx hb dL_law_872 (by decide) ?_
  refine lv_iadd hx hb dL_law_873 ?_
  refine va_sld hx hb hXs hbl hbA hw.2.2.1 (i := (i + (1 : Int32))) hv1 dL_law_874 ?_
  refine lv_aload_n hx hb dL_law_875 rfl (lv_at hl 1 rfl) ?_
  refine lv_iload hx hb dL_law_876 (lv_at hl 5 rfl) ?_
  refine lv_iconst (v := (2 : Int32)) hx hb dL_law_878 (by decide) ?_
  refine lv_iadd hx hb dL_law_879 ?_
  refine va_sld hx hb hXs hbl hbA hw.2.2.1 (i := (i + (2 : Int32))) hv2 dL_law_880 ?_
  refine lv_aload_n hx hb dL_law_881 rfl (lv_at hl 1 rfl) ?_
  refine lv_iload hx hb dL_law_882 (lv_at hl 5 rfl) ?_
  refine lv_iconst (v := (3 : Int32)) hx hb dL_law_884 (by decide) ?_
  refine lv_iadd hx hb dL_law_885 ?_
  refine va_sld hx hb hXs hbl hbA hw.2.2.1 (i := (i + (3 : Int32))) hv3 dL_law_886 ?_
  refine lv_aload_n hx hb dL_law_887 rfl (lv_at hl 1 rfl) ?_
  refine lv_iload hx hb dL_law_888 (lv_at hl 5 rfl) ?_
  refine lv_iconst (v := (4 : Int32)) hx hb dL_law_890 (by decide) ?_
  refine lv_iadd hx hb dL_law_891 ?_
  refine va_sld hx hb hXs hbl hbA hw.2.2.1 (i := (i + (4 : Int32))) hv4 dL_law_892 ?_
  refine M_calli hw (LZ_MA hw) (va_runV (own := "LeastreaderLaw") (As := [.int (xs (i + (1 : Int32)).toNatClampNeg), .int (xs (i + (2 : Int32)).toNatClampNeg), .int (xs (i + (3 : Int32)).toNatClampNeg), .int (xs (i + (4 : Int32)).toNatClampNeg)]) (rest := []) ⟨hx, hb, hml, hown, ht⟩ (c_X11_combine ν H.size (xs (i + (1 : Int32)).toNatClampNeg) (xs (i + (2 : Int32)).toNatClampNeg) (xs (i + (3 : Int32)).toNatClampNeg) (xs (i + (4 : Int32)).toNatClampNeg) hq1) (cwV 4 ht (G_V q_1483 q_1484 q_1485 q_56 q_1486) rfl rfl rfl ⟨rfl, vd_53⟩ ⟨Nat.le_of_ble_eq_true rfl, Nat.le_of_ble_eq_true rfl⟩) ⟨MB.blind, M_recv hg.2.1 hw, MB.pre hg.2.1 hJ hw va_P0 ne0⟩ rfl rfl hl.1 rfl (lv_room (Nat.le_of_ble_eq_true rfl)) dL_law_893 ⟨show cv + 4 + 47 ≤ 600128 by omega, show sv + 24 + 2726 ≤ 7301098 by omega⟩) (fun r2 ν2 H locs hf2 hw => ?_)
  refine lv_istore (lv' := [(6, .int r2), (5, .int r1), (0, .ref b), (1, .ref (ad 0)), (2, .ref (bd 0)), (3, .ref q), (4, .int i)]) hx hb dL_law_896 hl (by decide) rfl (fun ls hl => ?_)
  refine lv_goto (tgt := 1572) hx hb dL_law_898 (by decide) ?_
  refine W.widen (show cv + 4 + 47 ≤ cv + 2000 by omega) (show sv + 24 + 2726 ≤ sv + 112000 by omega) ?_
  exact hJ3 μ1 ν2 nv1 sw1 H locs ls hf2 hw (lv_sub hl [2, 3, 4, 5, 6] rfl)
set_option maxHeartbeats 4000000 in
set_option maxRecDepth 100000 in
theorem law_13 {p : Program} {l : Launch} {e : Env} {s : State} {m : MethodId} {b : Nat} {below : List Frame} {meth : Method} {c : Code} {L : Nat} {xs : Nat → Int32} {D : va_G} {ad bd : Nat → Nat} {cI cL cM cB : ClassId} {q : Nat} {Z : State → Prop} {JI : TMem → TMem → Prop} {i : Int32} {cv sv : Nat} (hRI : ∀ {μ ν : TMem}, JI μ ν → RI ν) (hGM : GM_tell JI) (C0 : LC p l s m b c L xs D ad bd cI cL cM cB) (hi : 0 ≤ i.toInt) (hiL : i.toInt + 6 ≤ L) (hcv : cv + 2000 ≤ 600128) (hsv : sv + 112000 ≤ 7301098) (hJ3 : LJ p l e s m b below meth c D ad bd cI cM q Z JI i (cv + 2000) (sv + 112000) 1572) : LJ p l e s m b below meth c D ad bd cI cM q Z JI i cv sv 901 := by
  obtain ⟨hx, hb, hml, hown, ht, hg, hI, hJ, hXs, hbl, hst, hL⟩ := C0
  have hN : NW s := hg.2.2.2.2.1
  have hbA : ¬ SA s.heap.size b := Nat.not_le.mpr hbl
  intro μ ν nv sw H locs ls hJI hw hl
  have hi1 : (i + (1 : Int32)).toInt = i.toInt + 1 := ii_a rfl (show (1 : Int32).toInt = 1 from rfl) (by omega) (by omega)
  have hi2 : (i + (2 : Int32)).toInt = i.toInt + 2 := ii_a rfl (show (2 : Int32).toInt = 2 from rfl) (by omega) (by omega)
  have hi3 : (i + (3 : Int32)).toInt = i.toInt + 3 := ii_a rfl (show (3 : Int32).toInt = 3 from rfl) (by omega) (by omega)
  have hi4 : (i + (4 : Int32)).toInt = i.toInt + 4 := ii_a rfl (show (4 : Int32).toInt = 4 from rfl) (by omega) (by omega)
  have hi5 : (i + (5 : Int32)).toInt = i.toInt + 5 := ii_a rfl (show (5 : Int32).toInt = 5 from rfl) (by omega) (by omega)
  have hv0 : vp_in i L := vin (by omega)
  have hv1 : vp_in (i + (1 : Int32)) L := vin (by omega)
  have hv2 : vp_in (i + (2 : Int32)) L := vin (by omega)
  have hv3 : vp_in (i + (3 : Int32)) L := vin (by omega)
  have hv4 : vp_in (i + (4 : Int32)) L := vin (by omega)
  have hv5 : vp_in (i + (5 : Int32)) L := vin (by omega)
  refine lv_aload_n hx hb dL_law_901 rfl (lv_at hl 1 rfl) ?_
  refine lv_aload_n hx hb dL_law_902 rfl (lv_at hl 0 rfl) ?_
  refine lv_iload hx hb dL_law_903 (lv_at hl 4 rfl) ?_
  refine lv_iconst (v := (1 : Int32)) hx hb dL_law_905 (by decide) ?_
  refine lv_iadd hx hb dL_law_906 ?_
  refine va_sld hx hb hXs hbl hbA hw.2.2.1 (i := (i + (1 : Int32))) hv1 dL_law_907 ?_
  refine lv_aload_n hx hb dL_law_908 rfl (lv_at hl 0 rfl) ?_
  refine lv_iload hx hb dL_law_909 (lv_at hl 4 rfl) ?_
  refine lv_iconst (v := (2 : Int32)) hx hb dL_law_911 (by decide) ?_
  refine lv_iadd hx hb dL_law_912 ?_
  refine va_sld hx hb hXs hbl hbA hw.2.2.1 (i := (i + (2 : Int32))) hv2 dL_law_913 ?_
  refine lv_aload_n hx hb dL_law_914 rfl (lv_at hl 3 rfl) ?_
  refine LL_call hw hI (vx_runSX (own := "LeastreaderLaw") (As := [.ref (ad 0), .int (xs (i + (1 : Int32)).toNatClampNeg), .int (xs (i + (2 : Int32)).toNatClampNeg), .ref q]) (rest := []) ⟨hx, hb, hml, hown, ht⟩ (c_L_tell hst q nv sw μ H.size (xs (i + (1 : Int32)).toNatClampNeg) (xs (i + (2 : Int32)).toNatClampNeg) (PW := fun k u => RW_tell JI ν (xs (i + (1 : Int32)).toNatClampNeg) (xs (i + (2 : Int32)).toNatClampNeg) k u.2.1 u.1) (hGM μ ν nv (xs (i + (1 : Int32)).toNatClampNeg) (xs (i + (2 : Int32)).toNatClampNeg) hJI)) (vx_cwSW 4 ht (G_S q_821 q_822 q_45 q_823) rfl rfl rfl vd_54 ⟨Nat.le_of_ble_eq_true rfl, Nat.le_of_ble_eq_true rfl⟩) ⟨LB.blind, hg.lb hI hw⟩ rfl rfl hl.1 rfl (lv_room (Nat.le_of_ble_eq_true rfl)) dL_law_915 ⟨show cv + 2 ≤ 600128 by omega, show sv + 12 ≤ 7301098 by omega⟩) (fun r1 μ1 nv1 sw1 H locs hq1 hw => ?_)
  refine lv_istore (lv' := [(5, .int r1), (0, .ref b), (1, .ref (ad 0)), (2, .ref (bd 0)), (3, .ref q), (4, .int i)]) hx hb dL_law_918 hl (by decide) rfl (fun ls hl => ?_)
  refine lv_aload_n hx hb dL_law_920 rfl (lv_at hl 3 rfl) ?_
  refine lv_aload_n hx hb dL_law_921 rfl (lv_at hl 1 rfl) ?_
  refine lv_iload hx hb dL_law_922 (lv_at hl 5 rfl) ?_
  refine lv_iconst (v := (1 : Int32)) hx hb dL_law_924 (by decide) ?_
  refine lv_iadd hx hb dL_law_925 ?_
  refine va_sld hx hb hXs hbl hbA hw.2.2.1 (i := (i + (1 : Int32))) hv1 dL_law_926 ?_
  refine lv_aload_n hx hb dL_law_927 rfl (lv_at hl 1 rfl) ?_
  refine lv_iload hx hb dL_law_928 (lv_at hl 5 rfl) ?_
  refine lv_iconst (v := (2 : Int32)) hx hb dL_law_930 (by decide) ?_
  refine lv_iadd hx hb dL_law_931 ?_
  refine va_sld hx hb hXs hbl hbA hw.2.2.1 (i := (i + (2 : Int32))) hv2 dL_law_932 ?_
  refine M_calli hw (LZ_MA hw) (va_runV (own := "LeastreaderLaw") (As := [.int (xs (i + (1 : Int32)).toNatClampNeg), .int (xs (i + (2 : Int32)).toNatClampNeg)]) (rest := []) ⟨hx, hb, hml, hown, ht⟩ (c_X11_tell ν H.size (xs (i + (1 : Int32)).toNatClampNeg) (xs (i + (2 : Int32)).toNatClampNeg) hq1) (cwV 2 ht (G_V q_1498 q_1499 q_1500 q_56 q_1501) rfl rfl rfl ⟨rfl, vd_55⟩ ⟨Nat.le_of_ble_eq_true rfl, Nat.le_of_ble_eq_true rfl⟩) ⟨MB.blind, M_recv hg.2.1 hw, MB.pre hg.2.1 hJ hw va_P0 ne0⟩ rfl rfl hl.1 rfl (lv_room (Nat.le_of_ble_eq_true rfl)) dL_law_933 ⟨show cv + 2 + 0 ≤ 600128 by omega, show sv + 12 + 0 ≤ 7301098 by omega⟩) (fun r2 ν2 H locs hf2 hw => ?_)
  refine lv_istore (lv' := [(6, .int r2), (5, .int r1), (0, .ref b), (1, .ref (ad 0)), (2, .ref (bd 0)), (3, .ref q), (4, .int i)]) hx hb dL_law_936 hl (by decide) rfl (fun ls hl => ?_)
  refine lv_goto (tgt := 1572) hx hb dL_law_938 (by decide) ?_
  refine W.widen (show cv + 2 + 0 ≤ cv + 2000 by omega) (show sv + 12 + 0 ≤ sv + 112000 by omega) ?_
  exact hJ3 μ1 ν2 nv1 sw1 H locs ls hf2 hw (lv_sub hl [2, 3, 4, 5, 6] rfl)
set_option maxHeartbeats 4000000 in
set_option maxRecDepth 100000 in
theorem law_14 {p : Program} {l : Launch} {e : Env} {s : State} {m : MethodId} {b : Nat} {below : List Frame} {meth : Method} {c : Code} {L : Nat} {xs : Nat → Int32} {D : va_G} {ad bd : Nat → Nat} {cI cL cM cB : ClassId} {q : Nat} {Z : State → Prop} {JI : TMem → TMem → Prop} {i : Int32} {cv sv : Nat} (hRI : ∀ {μ ν : TMem}, JI μ ν → RI ν) (hGM : GM_arrows JI) (C0 : LC p l s m b c L xs D ad bd cI cL cM cB) (hi : 0 ≤ i.toInt) (hiL : i.toInt + 6 ≤ L) (hcv : cv + 2000 ≤ 600128) (hsv : sv + 112000 ≤ 7301098) (hJ3 : LJ p l e s m b below meth c D ad bd cI cM q Z JI i (cv + 2000) (sv + 112000) 1572) : LJ p l e s m b below meth c D ad bd cI cM q Z JI i cv sv 941 := by
  obtain ⟨hx, hb, hml, hown, ht, hg, hI, hJ, hXs, hbl, hst, hL⟩ := C0
  have hN : NW s := hg.2.2.2.2.1
  have hbA : ¬ SA s.heap.size b := Nat.not_le.mpr hbl
  intro μ ν nv sw H locs ls hJI hw hl
  have hi1 : (i + (1 : Int32)).toInt = i.toInt + 1 := ii_a rfl (show (1 : Int32).toInt = 1 from rfl) (by omega) (by omega)
  have hi2 : (i + (2 : Int32)).toInt = i.toInt + 2 := ii_a rfl (show (2 : Int32).toInt = 2 from rfl) (by omega) (by omega)
  have hi3 : (i + (3 : Int32)).toInt = i.toInt + 3 := ii_a rfl (show (3 : Int32).toInt = 3 from rfl) (by omega) (by omega)
  have hi4 : (i + (4 : Int32)).toInt = i.toInt + 4 := ii_a rfl (show (4 : Int32).toInt = 4 from rfl) (by omega) (by omega)
  have hi5 : (i + (5 : Int32)).toInt = i.toInt + 5 := ii_a rfl (show (5 : Int32).toInt = 5 from rfl) (by omega) (by omega)
  have hv0 : vp_in i L := vin (by omega)
  have hv1 : vp_in (i + (1 : Int32)) L := vin (by omega)
  have hv2 : vp_in (i + (2 : Int32)) L := vin (by omega)
  have hv3 : vp_in (i + (3 : Int32)) L := vin (by omega)
  have hv4 : vp_in (i + (4 : Int32)) L := vin (by omega)
  have hv5 : vp_in (i + (5 : Int32)) L := vin (by omega)
  refine lv_aload_n hx hb dL_law_941 rfl (lv_at hl 1 rfl) ?_
  refine lv_aload_n hx hb dL_law_942 rfl (lv_at hl 0 rfl) ?_
  refine lv_iload hx hb dL_law_943 (lv_at hl 4 rfl) ?_
  refine lv_iconst (v := (1 : Int32)) hx hb dL_law_945 (by decide) ?_
  refine lv_iadd hx hb dL_law_946 ?_
  refine va_sld hx hb hXs hbl hbA hw.2.2.1 (i := (i + (1 : Int32))) hv1 dL_law_947 ?_
  refine lv_aload_n hx hb dL_law_948 rfl (lv_at hl 0 rfl) ?_
  refine lv_iload hx hb dL_law_949 (lv_at hl 4 rfl) ?_
  refine lv_iconst (v := (2 : Int32)) hx hb dL_law_951 (by decide) ?_
  refine lv_iadd hx hb dL_law_952 ?_
  refine va_sld hx hb hXs hbl hbA hw.2.2.1 (i := (i + (2 : Int32))) hv2 dL_law_953 ?_
  refine lv_aload_n hx hb dL_law_954 rfl (lv_at hl 0 rfl) ?_
  refine lv_iload hx hb dL_law_955 (lv_at hl 4 rfl) ?_
  refine lv_iconst (v := (3 : Int32)) hx hb dL_law_957 (by decide) ?_
  refine lv_iadd hx hb dL_law_958 ?_
  refine va_sld hx hb hXs hbl hbA hw.2.2.1 (i := (i + (3 : Int32))) hv3 dL_law_959 ?_
  refine lv_aload_n hx hb dL_law_960 rfl (lv_at hl 3 rfl) ?_
  refine LL_call hw hI (vx_runSX (own := "LeastreaderLaw") (As := [.ref (ad 0), .int (xs (i + (1 : Int32)).toNatClampNeg), .int (xs (i + (2 : Int32)).toNatClampNeg), .int (xs (i + (3 : Int32)).toNatClampNeg), .ref q]) (rest := []) ⟨hx, hb, hml, hown, ht⟩ (c_L_arrows hst q nv sw μ H.size (xs (i + (1 : Int32)).toNatClampNeg) (xs (i + (2 : Int32)).toNatClampNeg) (xs (i + (3 : Int32)).toNatClampNeg) (PW := fun k u => RW_arrows JI ν (xs (i + (1 : Int32)).toNatClampNeg) (xs (i + (2 : Int32)).toNatClampNeg) (xs (i + (3 : Int32)).toNatClampNeg) k u.2.1 u.1) (hGM μ ν nv (xs (i + (1 : Int32)).toNatClampNeg) (xs (i + (2 : Int32)).toNatClampNeg) (xs (i + (3 : Int32)).toNatClampNeg) hJI)) (vx_cwSW 5 ht (G_S q_828 q_829 q_45 q_830) rfl rfl rfl vd_56 ⟨Nat.le_of_ble_eq_true rfl, Nat.le_of_ble_eq_true rfl⟩) ⟨LB.blind, hg.lb hI hw⟩ rfl rfl hl.1 rfl (lv_room (Nat.le_of_ble_eq_true rfl)) dL_law_961 ⟨show cv + 3 ≤ 600128 by omega, show sv + 18 ≤ 7301098 by omega⟩) (fun r1 μ1 nv1 sw1 H locs hq1 hw => ?_)
  refine lv_istore (lv' := [(5, .int r1), (0, .ref b), (1, .ref (ad 0)), (2, .ref (bd 0)), (3, .ref q), (4, .int i)]) hx hb dL_law_964 hl (by decide) rfl (fun ls hl => ?_)
  refine lv_aload_n hx hb dL_law_966 rfl (lv_at hl 3 rfl) ?_
  refine lv_aload_n hx hb dL_law_967 rfl (lv_at hl 1 rfl) ?_
  refine lv_iload hx hb dL_law_968 (lv_at hl 5 rfl) ?_
  refine lv_iconst (v := (1 : Int32)) hx hb dL_law_970 (by decide) ?_
  refine lv_iadd hx hb dL_law_971 ?_
  refine va_sld hx hb hXs hbl hbA hw.2.2.1 (i := (i + (1 : Int32))) hv1 dL_law_972 ?_
  refine lv_aload_n hx hb dL_law_973 rfl (lv_at hl 1 rfl) ?_
  refine lv_iload hx hb dL_law_974 (lv_at hl 5 rfl) ?_
  refine lv_iconst (v := (2 : Int32)) hx hb dL_law_976 (by decide) ?_
  refine lv_iadd hx hb dL_law_977 ?_
  refine va_sld hx hb hXs hbl hbA hw.2.2.1 (i := (i + (2 : Int32))) hv2 dL_law_978 ?_
  refine lv_aload_n hx hb dL_law_979 rfl (lv_at hl 1 rfl) ?_
  refine lv_iload hx hb dL_law_980 (lv_at hl 5 rfl) ?_
  refine lv_iconst (v := (3 : Int32)) hx hb dL_law_982 (by decide) ?_
  refine lv_iadd hx hb dL_law_983 ?_
  refine va_sld hx hb hXs hbl hbA hw.2.2.1 (i := (i + (3 : Int32))) hv3 dL_law_984 ?_
  refine M_calli hw (LZ_MA hw) (va_runV (own := "LeastreaderLaw") (As := [.int (xs (i + (1 : Int32)).toNatClampNeg), .int (xs (i + (2 : Int32)).toNatClampNeg), .int (xs (i + (3 : Int32)).toNatClampNeg)]) (rest := []) ⟨hx, hb, hml, hown, ht⟩ (c_X11_arrows ν H.size (xs (i + (1 : Int32)).toNatClampNeg) (xs (i + (2 : Int32)).toNatClampNeg) (xs (i + (3 : Int32)).toNatClampNeg) hq1) (cwV 3 ht (G_V q_1502 q_1503 q_1504 q_56 q_1505) rfl rfl rfl ⟨rfl, vd_57⟩ ⟨Nat.le_of_ble_eq_true rfl, Nat.le_of_ble_eq_true rfl⟩) ⟨MB.blind, M_recv hg.2.1 hw, MB.pre hg.2.1 hJ hw va_P0 ne0⟩ rfl rfl hl.1 rfl (lv_room (Nat.le_of_ble_eq_true rfl)) dL_law_985 ⟨show cv + 3 + 0 ≤ 600128 by omega, show sv + 18 + 0 ≤ 7301098 by omega⟩) (fun r2 ν2 H locs hf2 hw => ?_)
  refine lv_istore (lv' := [(6, .int r2), (5, .int r1), (0, .ref b), (1, .ref (ad 0)), (2, .ref (bd 0)), (3, .ref q), (4, .int i)]) hx hb dL_law_988 hl (by decide) rfl (fun ls hl => ?_)
  refine lv_goto (tgt := 1572) hx hb dL_law_990 (by decide) ?_
  refine W.widen (show cv + 3 + 0 ≤ cv + 2000 by omega) (show sv + 18 + 0 ≤ sv + 112000 by omega) ?_
  exact hJ3 μ1 ν2 nv1 sw1 H locs ls hf2 hw (lv_sub hl [2, 3, 4, 5, 6] rfl)
set_option maxHeartbeats 4000000 in
set_option maxRecDepth 100000 in
theorem law_15 {p : Program} {l : Launch} {e : Env} {s : State} {m : MethodId} {b : Nat} {below : List Frame} {meth : Method} {c : Code} {L : Nat} {xs : Nat → Int32} {D : va_G} {ad bd : Nat → Nat} {cI cL cM cB : ClassId} {q : Nat} {Z : State → Prop} {JI : TMem → TMem → Prop} {i : Int32} {cv sv : Nat} (hRI : ∀ {μ ν : TMem}, JI μ ν → RI ν) (hGM : GM_takes JI) (C0 : LC p l s m b c L xs D ad bd cI cL cM cB) (hi : 0 ≤ i.toInt) (hiL : i.toInt + 6 ≤ L) (hcv : cv + 2000 ≤ 600128) (hsv : sv + 112000 ≤ 7301098) (hJ3 : LJ p l e s m b below meth c D ad bd cI cM q Z JI i (cv + 2000) (sv + 112000) 1572) : LJ p l e s m b below meth c D ad bd cI cM q Z JI i cv sv 993 := by
  obtain ⟨hx, hb, hml, hown, ht, hg, hI, hJ, hXs, hbl, hst, hL⟩ := C0
  have hN : NW s := hg.2.2.2.2.1
  have hbA : ¬ SA s.heap.size b := Nat.not_le.mpr hbl
  intro μ ν nv sw H locs ls hJI hw hl
  have hi1 : (i + (1 : Int32)).toInt = i.toInt + 1 := ii_a rfl (show (1 : Int32).toInt = 1 from rfl) (by omega) (by omega)
  have hi2 : (i + (2 : Int32)).toInt = i.toInt + 2 := ii_a rfl (show (2 : Int32).toInt = 2 from rfl) (by omega) (by omega)
  have hi3 : (i + (3 : Int32)).toInt = i.toInt + 3 := ii_a rfl (show (3 : Int32).toInt = 3 from rfl) (by omega) (by omega)
  have hi4 : (i + (4 : Int32)).toInt = i.toInt + 4 := ii_a rfl (show (4 : Int32).toInt = 4 from rfl) (by omega) (by omega)
  have hi5 : (i + (5 : Int32)).toInt = i.toInt + 5 := ii_a rfl (show (5 : Int32).toInt = 5 from rfl) (by omega) (by omega)
  have hv0 : vp_in i L := vin (by omega)
  have hv1 : vp_in (i + (1 : Int32)) L := vin (by omega)
  have hv2 : vp_in (i + (2 : Int32)) L := vin (by omega)
  have hv3 : vp_in (i + (3 : Int32)) L := vin (by omega)
  have hv4 : vp_in (i + (4 : Int32)) L := vin (by omega)
  have hv5 : vp_in (i + (5 : Int32)) L := vin (by omega)
  refine lv_aload_n hx hb dL_law_993 rfl (lv_at hl 1 rfl) ?_
  refine lv_aload_n hx hb dL_law_994 rfl (lv_at hl 0 rfl) ?_
  refine lv_iload hx hb dL_law_995 (lv_at hl 4 rfl) ?_
  refine lv_iconst (v := (1 : Int32)) hx hb dL_law_997 (by decide) ?_
  refine lv_iadd hx hb dL_law_998 ?_
  refine va_sld hx hb hXs hbl hbA hw.2.2.1 (i := (i + (1 : Int32))) hv1 dL_law_999 ?_
  refine lv_aload_n hx hb dL_law_1000 rfl (lv_at hl 0 rfl) ?_
  refine lv_iload hx hb dL_law_1001 (lv_at hl 4 rfl) ?_
  refine lv_iconst (v := (2 : Int32)) hx hb dL_law_1003 (by decide) ?_
  refine lv_iadd hx hb dL_law_1004 ?_
  refine va_sld hx hb hXs hbl hbA hw.2.2.1 (i := (i + (2 : Int32))) hv2 dL_law_1005 ?_
  refine lv_aload_n hx hb dL_law_1006 rfl (lv_at hl 0 rfl) ?_
  refine lv_iload hx hb dL_law_1007 (lv_at hl 4 rfl) ?_
  refine lv_iconst (v := (3 : Int32)) hx hb dL_law_1009 (by decide) ?_
  refine lv_iadd hx hb dL_law_1010 ?_
  refine va_sld hx hb hXs hbl hbA hw.2.2.1 (i := (i + (3 : Int32))) hv3 dL_law_1011 ?_
  refine lv_aload_n hx hb dL_law_1012 rfl (lv_at hl 3 rfl) ?_
  refine LL_call hw hI (vx_runSX (own := "LeastreaderLaw") (As := [.ref (ad 0), .int (xs (i + (1 : Int32)).toNatClampNeg), .int (xs (i + (2 : Int32)).toNatClampNeg), .int (xs (i + (3 : Int32)).toNatClampNeg), .ref q]) (rest := []) ⟨hx, hb, hml, hown, ht⟩ (c_L_takes hst q nv sw μ H.size (xs (i + (1 : Int32)).toNatClampNeg) (xs (i + (2 : Int32)).toNatClampNeg) (xs (i + (3 : Int32)).toNatClampNeg) (PW := fun k u => RW_takes JI ν (xs (i + (1 : Int32)).toNatClampNeg) (xs (i + (2 : Int32)).toNatClampNeg) (xs (i + (3 : Int32)).toNatClampNeg) k u.2.1 u.1) (hGM μ ν nv (xs (i + (1 : Int32)).toNatClampNeg) (xs (i + (2 : Int32)).toNatClampNeg) (xs (i + (3 : Int32)).toNatClampNeg) hJI)) (vx_cwSW 5 ht (G_S q_835 q_836 q_45 q_837) rfl rfl rfl vd_58 ⟨Nat.le_of_ble_eq_true rfl, Nat.le_of_ble_eq_true rfl⟩) ⟨LB.blind, hg.lb hI hw⟩ rfl rfl hl.1 rfl (lv_room (Nat.le_of_ble_eq_true rfl)) dL_law_1013 ⟨show cv + 3 ≤ 600128 by omega, show sv + 18 ≤ 7301098 by omega⟩) (fun r1 μ1 nv1 sw1 H locs hq1 hw => ?_)
  refine lv_istore (lv' := [(5, .int r1), (0, .ref b), (1, .ref (ad 0)), (2, .ref (bd 0)), (3, .ref q), (4, .int i)]) hx hb dL_law_1016 hl (by decide) rfl (fun ls hl => ?_)
  refine lv_aload_n hx hb dL_law_1018 rfl (lv_at hl 3 rfl) ?_
  refine lv_aload_n hx hb dL_law_1019 rfl (lv_at hl 1 rfl) ?_
  refine lv_iload hx hb dL_law_1020 (lv_at hl 5 rfl) ?_
  refine lv_iconst (v := (1 : Int32)) hx hb dL_law_1022 (by decide) ?_
  refine lv_iadd hx hb dL_law_1023 ?_
  refine va_sld hx hb hXs hbl hbA hw.2.2.1 (i := (i + (1 : Int32))) hv1 dL_law_1024 ?_
  refine lv_aload_n hx hb dL_law_1025 rfl (lv_at hl 1 rfl) ?_
  refine lv_iload hx hb dL_law_1026 (lv_at hl 5 rfl) ?_
  refine lv_iconst (v := (2 : Int32)) hx hb dL_law_1028 (by decide) ?_
  refine lv_iadd hx hb dL_law_1029 ?_
  refine va_sld hx hb hXs hbl hbA hw.2.2.1 (i := (i + (2 : Int32))) hv2 dL_law_1030 ?_
  refine lv_aload_n hx hb dL_law_1031 rfl (lv_at hl 1 rfl) ?_
  refine lv_iload hx hb dL_law_1032 (lv_at hl 5 rfl) ?_
  refine lv_iconst (v := (3 : Int32)) hx hb dL_law_1034 (by decide) ?_
  refine lv_iadd hx hb dL_law_1035 ?_
  refine va_sld hx hb hXs hbl hbA hw.2.2.1 (i := (i + (3 : Int32))) hv3 dL_law_1036 ?_
  refine M_calli hw (LZ_MA hw) (va_runV (own := "LeastreaderLaw") (As := [.int (xs (i + (1 : Int32)).toNatClampNeg), .int (xs (i + (2 : Int32)).toNatClampNeg), .int (xs (i + (3 : Int32)).toNatClampNeg)]) (rest := []) ⟨hx, hb, hml, hown, ht⟩ (c_X11_takes ν H.size (xs (i + (1 : Int32)).toNatClampNeg) (xs (i + (2 : Int32)).toNatClampNeg) (xs (i + (3 : Int32)).toNatClampNeg) hq1) (cwV 3 ht (G_V q_1506 q_1507 q_1508 q_56 q_1509) rfl rfl rfl ⟨rfl, vd_59⟩ ⟨Nat.le_of_ble_eq_true rfl, Nat.le_of_ble_eq_true rfl⟩) ⟨MB.blind, M_recv hg.2.1 hw, MB.pre hg.2.1 hJ hw va_P0 ne0⟩ rfl rfl hl.1 rfl (lv_room (Nat.le_of_ble_eq_true rfl)) dL_law_1037 ⟨show cv + 3 + 0 ≤ 600128 by omega, show sv + 18 + 0 ≤ 7301098 by omega⟩) (fun r2 ν2 H locs hf2 hw => ?_)
  refine lv_istore (lv' := [(6, .int r2), (5, .int r1), (0, .ref b), (1, .ref (ad 0)), (2, .ref (bd 0)), (3, .ref q), (4, .int i)]) hx hb dL_law_1040 hl (by decide) rfl (fun ls hl => ?_)
  refine lv_goto (tgt := 1572) hx hb dL_law_1042 (by decide) ?_
  refine W.widen (show cv + 3 + 0 ≤ cv + 2000 by omega) (show sv + 18 + 0 ≤ sv + 112000 by omega) ?_
  exact hJ3 μ1 ν2 nv1 sw1 H locs ls hf2 hw (lv_sub hl [2, 3, 4, 5, 6] rfl)
set_option maxHeartbeats 4000000 in
set_option maxRecDepth 100000 in
theorem law_16 {p : Program} {l : Launch} {e : Env} {s : State} {m : MethodId} {b : Nat} {below : List Frame} {meth : Method} {c : Code} {L : Nat} {xs : Nat → Int32} {D : va_G} {ad bd : Nat → Nat} {cI cL cM cB : ClassId} {q : Nat} {Z : State → Prop} {JI : TMem → TMem → Prop} {i : Int32} {cv sv : Nat} (hRI : ∀ {μ ν : TMem}, JI μ ν → RI ν) (hGM : GM_after JI) (C0 : LC p l s m b c L xs D ad bd cI cL cM cB) (hi : 0 ≤ i.toInt) (hiL : i.toInt + 6 ≤ L) (hcv : cv + 2000 ≤ 600128) (hsv : sv + 112000 ≤ 7301098) (hJ3 : LJ p l e s m b below meth c D ad bd cI cM q Z JI i (cv + 2000) (sv + 112000) 1572) : LJ p l e s m b below meth c D ad bd cI cM q Z JI i cv sv 1045 := by
  obtain ⟨hx, hb, hml, hown, ht, hg, hI, hJ, hXs, hbl, hst, hL⟩ := C0
  have hN : NW s := hg.2.2.2.2.1
  have hbA : ¬ SA s.heap.size b := Nat.not_le.mpr hbl
  intro μ ν nv sw H locs ls hJI hw hl
  have hi1 : (i + (1 : Int32)).toInt = i.toInt + 1 := ii_a rfl (show (1 : Int32).toInt = 1 from rfl) (by omega) (by omega)
  have hi2 : (i + (2 : Int32)).toInt = i.toInt + 2 := ii_a rfl (show (2 : Int32).toInt = 2 from rfl) (by omega) (by omega)
  have hi3 : (i + (3 : Int32)).toInt = i.toInt + 3 := ii_a rfl (show (3 : Int32).toInt = 3 from rfl) (by omega) (by omega)
  have hi4 : (i + (4 : Int32)).toInt = i.toInt + 4 := ii_a rfl (show (4 : Int32).toInt = 4 from rfl) (by omega) (by omega)
  have hi5 : (i + (5 : Int32)).toInt = i.toInt + 5 := ii_a rfl (show (5 : Int32).toInt = 5 from rfl) (by omega) (by omega)
  have hv0 : vp_in i L := vin (by omega)
  have hv1 : vp_in (i + (1 : Int32)) L := vin (by omega)
  have hv2 : vp_in (i + (2 : Int32)) L := vin (by omega)
  have hv3 : vp_in (i + (3 : Int32)) L := vin (by omega)
  have hv4 : vp_in (i + (4 : Int32)) L := vin (by omega)
  have hv5 : vp_in (i + (5 : Int32)) L := vin (by omega)
  refine lv_aload_n hx hb dL_law_1045 rfl (lv_at hl 1 rfl) ?_
  refine lv_aload_n hx hb dL_law_1046 rfl (lv_at hl 0 rfl) ?_
  refine lv_iload hx hb dL_law_1047 (lv_at hl 4 rfl) ?_
  refine lv_iconst (v := (1 : Int32)) hx hb dL_law_1049 (by decide) ?_
  refine lv_iadd hx hb dL_law_1050 ?_
  refine va_sld hx hb hXs hbl hbA hw.2.2.1 (i := (i + (1 : Int32))) hv1 dL_law_1051 ?_
  refine lv_aload_n hx hb dL_law_1052 rfl (lv_at hl 0 rfl) ?_
  refine lv_iload hx hb dL_law_1053 (lv_at hl 4 rfl) ?_
  refine lv_iconst (v := (2 : Int32)) hx hb dL_law_1055 (by decide) ?_
  refine lv_iadd hx hb dL_law_1056 ?_
  refine va_sld hx hb hXs hbl hbA hw.2.2.1 (i := (i + (2 : Int32))) hv2 dL_law_1057 ?_
  refine lv_aload_n hx hb dL_law_1058 rfl (lv_at hl 0 rfl) ?_
  refine lv_iload hx hb dL_law_1059 (lv_at hl 4 rfl) ?_
  refine lv_iconst (v := (3 : Int32)) hx hb dL_law_1061 (by decide) ?_
  refine lv_iadd hx hb dL_law_1062 ?_
  refine va_sld hx hb hXs hbl hbA hw.2.2.1 (i := (i + (3 : Int32))) hv3 dL_law_1063 ?_
  refine lv_aload_n hx hb dL_law_1064 rfl (lv_at hl 0 rfl) ?_
  refine lv_iload hx hb dL_law_1065 (lv_at hl 4 rfl) ?_
  refine lv_iconst (v := (4 : Int32)) hx hb dL_law_1067 (by decide) ?_
  refine lv_iadd hx hb dL_law_1068 ?_
  refine va_sld hx hb hXs hbl hbA hw.2.2.1 (i := (i + (4 : Int32))) hv4 dL_law_1069 ?_
  refine lv_aload_n hx hb dL_law_1070 rfl (lv_at hl 3 rfl) ?_
  refine LL_call hw hI (vx_runSX (own := "LeastreaderLaw") (As := [.ref (ad 0), .int (xs (i + (1 : Int32)).toNatClampNeg), .int (xs (i + (2 : Int32)).toNatClampNeg), .int (xs (i + (3 : Int32)).toNatClampNeg), .int (xs (i + (4 : Int32)).toNatClampNeg), .ref q]) (rest := []) ⟨hx, hb, hml, hown, ht⟩ (c_L_after hst q nv sw μ H.size (xs (i + (1 : Int32)).toNatClampNeg) (xs (i + (2 : Int32)).toNatClampNeg) (xs (i + (3 : Int32)).toNatClampNeg) (xs (i + (4 : Int32)).toNatClampNeg) (PW := fun k u => RW_after JI ν (xs (i + (1 : Int32)).toNatClampNeg) (xs (i + (2 : Int32)).toNatClampNeg) (xs (i + (3 : Int32)).toNatClampNeg) (xs (i + (4 : Int32)).toNatClampNeg) k u.2.1 u.1) (hGM μ ν nv (xs (i + (1 : Int32)).toNatClampNeg) (xs (i + (2 : Int32)).toNatClampNeg) (xs (i + (3 : Int32)).toNatClampNeg) (xs (i + (4 : Int32)).toNatClampNeg) hJI)) (vx_cwSW 6 ht (G_S q_845 q_846 q_45 q_847) rfl rfl rfl vd_60 ⟨Nat.le_of_ble_eq_true rfl, Nat.le_of_ble_eq_true rfl⟩) ⟨LB.blind, hg.lb hI hw⟩ rfl rfl hl.1 rfl (lv_room (Nat.le_of_ble_eq_true rfl)) dL_law_1071 ⟨show cv + 5 ≤ 600128 by omega, show sv + 30 ≤ 7301098 by omega⟩) (fun r1 μ1 nv1 sw1 H locs hq1 hw => ?_)
  refine lv_istore (lv' := [(5, .int r1), (0, .ref b), (1, .ref (ad 0)), (2, .ref (bd 0)), (3, .ref q), (4, .int i)]) hx hb dL_law_1074 hl (by decide) rfl (fun ls hl => ?_)
  refine lv_aload_n hx hb dL_law_1076 rfl (lv_at hl 3 rfl) ?_
  refine lv_aload_n hx hb dL_law_1077 rfl (lv_at hl 1 rfl) ?_
  refine lv_iload hx hb dL_law_1078 (lv_at hl 5 rfl) ?_
  refine lv_iconst (v := (1 : Int32)) hx hb dL_law_1080 (by decide) ?_
  refine lv_iadd hx hb dL_law_1081 ?_
  refine va_sld hx hb hXs hbl hbA hw.2.2.1 (i := (i + (1 : Int32))) hv1 dL_law_1082 ?_
  refine lv_aload_n hx hb dL_law_1083 rfl (lv_at hl 1 rfl) ?_
  refine lv_iload hx hb dL_law_1084 (lv_at hl 5 rfl) ?_
  refine lv_iconst (v := (2 : Int32)) hx hb dL_law_1086 (by decide) ?_
  refine lv_iadd hx hb dL_law_1087 ?_
  refine va_sld hx hb hXs hbl hbA hw.2.2.1 (i := (i + (2 : Int32))) hv2 dL_law_1088 ?_
  refine lv_aload_n hx hb dL_law_1089 rfl (lv_at hl 1 rfl) ?_
  refine lv_iload hx hb dL_law_1090 (lv_at hl 5 rfl) ?_
  refine lv_iconst (v := (3 : Int32)) hx hb dL_law_1092 (by decide) ?_
  refine lv_iadd hx hb dL_law_1093 ?_
  refine va_sld hx hb hXs hbl hbA hw.2.2.1 (i := (i + (3 : Int32))) hv3 dL_law_1094 ?_
  refine lv_aload_n hx hb dL_law_1095 rfl (lv_at hl 1 rfl) ?_
  refine lv_iload hx hb dL_law_1096 (lv_at hl 5 rfl) ?_
  refine lv_iconst (v := (4 : Int32)) hx hb dL_law_1098 (by decide) ?_
  refine lv_iadd hx hb dL_law_1099 ?_
  refine va_sld hx hb hXs hbl hbA hw.2.2.1 (i := (i + (4 : Int32))) hv4 dL_law_1100 ?_
  refine M_calli hw (LZ_MA hw) (va_runV (own := "LeastreaderLaw") (As := [.int (xs (i + (1 : Int32)).toNatClampNeg), .int (xs (i + (2 : Int32)).toNatClampNeg), .int (xs (i + (3 : Int32)).toNatClampNeg), .int (xs (i + (4 : Int32)).toNatClampNeg)]) (rest := []) ⟨hx, hb, hml, hown, ht⟩ (c_X11_after ν H.size (xs (i + (1 : Int32)).toNatClampNeg) (xs (i + (2 : Int32)).toNatClampNeg) (xs (i + (3 : Int32)).toNatClampNeg) (xs (i + (4 : Int32)).toNatClampNeg) hq1) (cwV 4 ht (G_V q_1520 q_1521 q_1522 q_56 q_1523) rfl rfl rfl ⟨rfl, vd_61⟩ ⟨Nat.le_of_ble_eq_true rfl, Nat.le_of_ble_eq_true rfl⟩) ⟨MB.blind, M_recv hg.2.1 hw, MB.pre hg.2.1 hJ hw va_P0 ne0⟩ rfl rfl hl.1 rfl (lv_room (Nat.le_of_ble_eq_true rfl)) dL_law_1101 ⟨show cv + 5 + 41 ≤ 600128 by omega, show sv + 30 + 1685 ≤ 7301098 by omega⟩) (fun r2 ν2 H locs hf2 hw => ?_)
  refine lv_istore (lv' := [(6, .int r2), (5, .int r1), (0, .ref b), (1, .ref (ad 0)), (2, .ref (bd 0)), (3, .ref q), (4, .int i)]) hx hb dL_law_1104 hl (by decide) rfl (fun ls hl => ?_)
  refine lv_goto (tgt := 1572) hx hb dL_law_1106 (by decide) ?_
  refine W.widen (show cv + 5 + 41 ≤ cv + 2000 by omega) (show sv + 30 + 1685 ≤ sv + 112000 by omega) ?_
  exact hJ3 μ1 ν2 nv1 sw1 H locs ls hf2 hw (lv_sub hl [2, 3, 4, 5, 6] rfl)
set_option maxHeartbeats 4000000 in
set_option maxRecDepth 100000 in
theorem law_17 {p : Program} {l : Launch} {e : Env} {s : State} {m : MethodId} {b : Nat} {below : List Frame} {meth : Method} {c : Code} {L : Nat} {xs : Nat → Int32} {D : va_G} {ad bd : Nat → Nat} {cI cL cM cB : ClassId} {q : Nat} {Z : State → Prop} {JI : TMem → TMem → Prop} {i : Int32} {cv sv : Nat} (hRI : ∀ {μ ν : TMem}, JI μ ν → RI ν) (hGM : GM_size JI) (C0 : LC p l s m b c L xs D ad bd cI cL cM cB) (hi : 0 ≤ i.toInt) (hiL : i.toInt + 6 ≤ L) (hcv : cv + 2000 ≤ 600128) (hsv : sv + 112000 ≤ 7301098) (hJ3 : LJ p l e s m b below meth c D ad bd cI cM q Z JI i (cv + 2000) (sv + 112000) 1572) : LJ p l e s m b below meth c D ad bd cI cM q Z JI i cv sv 1109 := by
  obtain ⟨hx, hb, hml, hown, ht, hg, hI, hJ, hXs, hbl, hst, hL⟩ := C0
  have hN : NW s := hg.2.2.2.2.1
  have hbA : ¬ SA s.heap.size b := Nat.not_le.mpr hbl
  intro μ ν nv sw H locs ls hJI hw hl
  have hi1 : (i + (1 : Int32)).toInt = i.toInt + 1 := ii_a rfl (show (1 : Int32).toInt = 1 from rfl) (by omega) (by omega)
  have hi2 : (i + (2 : Int32)).toInt = i.toInt + 2 := ii_a rfl (show (2 : Int32).toInt = 2 from rfl) (by omega) (by omega)
  have hi3 : (i + (3 : Int32)).toInt = i.toInt + 3 := ii_a rfl (show (3 : Int32).toInt = 3 from rfl) (by omega) (by omega)
  have hi4 : (i + (4 : Int32)).toInt = i.toInt + 4 := ii_a rfl (show (4 : Int32).toInt = 4 from rfl) (by omega) (by omega)
  have hi5 : (i + (5 : Int32)).toInt = i.toInt + 5 := ii_a rfl (show (5 : Int32).toInt = 5 from rfl) (by omega) (by omega)
  have hv0 : vp_in i L := vin (by omega)
  have hv1 : vp_in (i + (1 : Int32)) L := vin (by omega)
  have hv2 : vp_in (i + (2 : Int32)) L := vin (by omega)
  have hv3 : vp_in (i + (3 : Int32)) L := vin (by omega)
  have hv4 : vp_in (i + (4 : Int32)) L := vin (by omega)
  have hv5 : vp_in (i + (5 : Int32)) L := vin (by omega)
  refine lv_aload_n hx hb dL_law_1109 rfl (lv_at hl 1 rfl) ?_
  refine lv_aload_n hx hb dL_law_1110 rfl (lv_at hl 0 rfl) ?_
  refine lv_iload hx hb dL_law_1111 (lv_at hl 4 rfl) ?_
  refine lv_iconst (v := (1 : Int32)) hx hb dL_law_1113 (by decide) ?_
  refine lv_iadd hx hb dL_law_1114 ?_
  refine va_sld hx hb hXs hbl hbA hw.2.2.1 (i := (i + (1 : Int32))) hv1 dL_law_1115 ?_
  refine lv_aload_n hx hb dL_law_1116 rfl (lv_at hl 0 rfl) ?_
  refine lv_iload hx hb dL_law_1117 (lv_at hl 4 rfl) ?_
  refine lv_iconst (v := (2 : Int32)) hx hb dL_law_1119 (by decide) ?_
  refine lv_iadd hx hb dL_law_1120 ?_
  refine va_sld hx hb hXs hbl hbA hw.2.2.1 (i := (i + (2 : Int32))) hv2 dL_law_1121 ?_
  refine lv_aload_n hx hb dL_law_1122 rfl (lv_at hl 3 rfl) ?_
  refine LL_call hw hI (vx_runSX (own := "LeastreaderLaw") (As := [.ref (ad 0), .int (xs (i + (1 : Int32)).toNatClampNeg), .int (xs (i + (2 : Int32)).toNatClampNeg), .ref q]) (rest := []) ⟨hx, hb, hml, hown, ht⟩ (c_L_size hst q nv sw μ H.size (xs (i + (1 : Int32)).toNatClampNeg) (xs (i + (2 : Int32)).toNatClampNeg) (PW := fun k u => RW_size JI ν (xs (i + (1 : Int32)).toNatClampNeg) (xs (i + (2 : Int32)).toNatClampNeg) k u.2.1 u.1) (hGM μ ν nv (xs (i + (1 : Int32)).toNatClampNeg) (xs (i + (2 : Int32)).toNatClampNeg) hJI)) (vx_cwSW 4 ht (G_S q_874 q_875 q_45 q_876) rfl rfl rfl vd_62 ⟨Nat.le_of_ble_eq_true rfl, Nat.le_of_ble_eq_true rfl⟩) ⟨LB.blind, hg.lb hI hw⟩ rfl rfl hl.1 rfl (lv_room (Nat.le_of_ble_eq_true rfl)) dL_law_1123 ⟨show cv + 3 ≤ 600128 by omega, show sv + 18 ≤ 7301098 by omega⟩) (fun r1 μ1 nv1 sw1 H locs hq1 hw => ?_)
  refine lv_istore (lv' := [(5, .int r1), (0, .ref b), (1, .ref (ad 0)), (2, .ref (bd 0)), (3, .ref q), (4, .int i)]) hx hb dL_law_1126 hl (by decide) rfl (fun ls hl => ?_)
  refine lv_aload_n hx hb dL_law_1128 rfl (lv_at hl 3 rfl) ?_
  refine lv_aload_n hx hb dL_law_1129 rfl (lv_at hl 1 rfl) ?_
  refine lv_iload hx hb dL_law_1130 (lv_at hl 5 rfl) ?_
  refine lv_iconst (v := (1 : Int32)) hx hb dL_law_1132 (by decide) ?_
  refine lv_iadd hx hb dL_law_1133 ?_
  refine va_sld hx hb hXs hbl hbA hw.2.2.1 (i := (i + (1 : Int32))) hv1 dL_law_1134 ?_
  refine lv_aload_n hx hb dL_law_1135 rfl (lv_at hl 1 rfl) ?_
  refine lv_iload hx hb dL_law_1136 (lv_at hl 5 rfl) ?_
  refine lv_iconst (v := (2 : Int32)) hx hb dL_law_1138 (by decide) ?_
  refine lv_iadd hx hb dL_law_1139 ?_
  refine va_sld hx hb hXs hbl hbA hw.2.2.1 (i := (i + (2 : Int32))) hv2 dL_law_1140 ?_
  refine M_calli hw (LZ_MA hw) (va_runV (own := "LeastreaderLaw") (As := [.int (xs (i + (1 : Int32)).toNatClampNeg), .int (xs (i + (2 : Int32)).toNatClampNeg)]) (rest := []) ⟨hx, hb, hml, hown, ht⟩ (c_X11_size ν H.size (xs (i + (1 : Int32)).toNatClampNeg) (xs (i + (2 : Int32)).toNatClampNeg) hq1) (cwV 2 ht (G_V q_1528 q_1529 q_1530 q_56 q_1531) rfl rfl rfl ⟨rfl, vd_63⟩ ⟨Nat.le_of_ble_eq_true rfl, Nat.le_of_ble_eq_true rfl⟩) ⟨MB.blind, M_recv hg.2.1 hw, MB.pre hg.2.1 hJ hw va_P0 ne0⟩ rfl rfl hl.1 rfl (lv_room (Nat.le_of_ble_eq_true rfl)) dL_law_1141 ⟨show cv + 3 + 41 ≤ 600128 by omega, show sv + 18 + 1685 ≤ 7301098 by omega⟩) (fun r2 ν2 H locs hf2 hw => ?_)
  refine lv_istore (lv' := [(6, .int r2), (5, .int r1), (0, .ref b), (1, .ref (ad 0)), (2, .ref (bd 0)), (3, .ref q), (4, .int i)]) hx hb dL_law_1144 hl (by decide) rfl (fun ls hl => ?_)
  refine lv_goto (tgt := 1572) hx hb dL_law_1146 (by decide) ?_
  refine W.widen (show cv + 3 + 41 ≤ cv + 2000 by omega) (show sv + 18 + 1685 ≤ sv + 112000 by omega) ?_
  exact hJ3 μ1 ν2 nv1 sw1 H locs ls hf2 hw (lv_sub hl [2, 3, 4, 5, 6] rfl)
set_option maxHeartbeats 4000000 in
set_option maxRecDepth 100000 in
theorem law_18 {p : Program} {l : Launch} {e : Env} {s : State} {m : MethodId} {b : Nat} {below : List Frame} {meth : Method} {c : Code} {L : Nat} {xs : Nat → Int32} {D : va_G} {ad bd : Nat → Nat} {cI cL cM cB : ClassId} {q : Nat} {Z : State → Prop} {JI : TMem → TMem → Prop} {i : Int32} {cv sv : Nat} (hRI : ∀ {μ ν : TMem}, JI μ ν → RI ν) (hGM : GM_text JI) (C0 : LC p l s m b c L xs D ad bd cI cL cM cB) (hi : 0 ≤ i.toInt) (hiL : i.toInt + 6 ≤ L) (hcv : cv + 2000 ≤ 600128) (hsv : sv + 112000 ≤ 7301098) (hJ3 : LJ p l e s m b below meth c D ad bd cI cM q Z JI i (cv + 2000) (sv + 112000) 1572) : LJ p l e s m b below meth c D ad bd cI cM q Z JI i cv sv 1149 := by
  obtain ⟨hx, hb, hml, hown, ht, hg, hI, hJ, hXs, hbl, hst, hL⟩ := C0
  have hN : NW s := hg.2.2.2.2.1
  have hbA : ¬ SA s.heap.size b := Nat.not_le.mpr hbl
  intro μ ν nv sw H locs ls hJI hw hl
  have hi1 : (i + (1 : Int32)).toInt = i.toInt + 1 := ii_a rfl (show (1 : Int32).toInt = 1 from rfl) (by omega) (by omega)
  have hi2 : (i + (2 : Int32)).toInt = i.toInt + 2 := ii_a rfl (show (2 : Int32).toInt = 2 from rfl) (by omega) (by omega)
  have hi3 : (i + (3 : Int32)).toInt = i.toInt + 3 := ii_a rfl (show (3 : Int32).toInt = 3 from rfl) (by omega) (by omega)
  have hi4 : (i + (4 : Int32)).toInt = i.toInt + 4 := ii_a rfl (show (4 : Int32).toInt = 4 from rfl) (by omega) (by omega)
  have hi5 : (i + (5 : Int32)).toInt = i.toInt + 5 := ii_a rfl (show (5 : Int32).toInt = 5 from rfl) (by omega) (by omega)
  have hv0 : vp_in i L := vin (by omega)
  have hv1 : vp_in (i + (1 : Int32)) L := vin (by omega)
  have hv2 : vp_in (i + (2 : Int32)) L := vin (by omega)
  have hv3 : vp_in (i + (3 : Int32)) L := vin (by omega)
  have hv4 : vp_in (i + (4 : Int32)) L := vin (by omega)
  have hv5 : vp_in (i + (5 : Int32)) L := vin (by omega)
  refine lv_aload_n hx hb dL_law_1149 rfl (lv_at hl 1 rfl) ?_
  refine lv_aload_n hx hb dL_law_1150 rfl (lv_at hl 0 rfl) ?_
  refine lv_iload hx hb dL_law_1151 (lv_at hl 4 rfl) ?_
  refine lv_iconst (v := (1 : Int32)) hx hb dL_law_1153 (by decide) ?_
  refine lv_iadd hx hb dL_law_1154 ?_
  refine va_sld hx hb hXs hbl hbA hw.2.2.1 (i := (i + (1 : Int32))) hv1 dL_law_1155 ?_
  refine lv_aload_n hx hb dL_law_1156 rfl (lv_at hl 0 rfl) ?_
  refine lv_iload hx hb dL_law_1157 (lv_at hl 4 rfl) ?_
  refine lv_iconst (v := (2 : Int32)) hx hb dL_law_1159 (by decide) ?_
  refine lv_iadd hx hb dL_law_1160 ?_
  refine va_sld hx hb hXs hbl hbA hw.2.2.1 (i := (i + (2 : Int32))) hv2 dL_law_1161 ?_
  refine lv_aload_n hx hb dL_law_1162 rfl (lv_at hl 3 rfl) ?_
  refine LL_call hw hI (vx_runSX (own := "LeastreaderLaw") (As := [.ref (ad 0), .int (xs (i + (1 : Int32)).toNatClampNeg), .int (xs (i + (2 : Int32)).toNatClampNeg), .ref q]) (rest := []) ⟨hx, hb, hml, hown, ht⟩ (c_L_text hst q nv sw μ H.size (xs (i + (1 : Int32)).toNatClampNeg) (xs (i + (2 : Int32)).toNatClampNeg) (PW := fun _ u => RW_text JI ν u.1) (hGM μ ν (xs (i + (1 : Int32)).toNatClampNeg) (xs (i + (2 : Int32)).toNatClampNeg) hJI)) (vx_cwSW 4 ht (G_S q_881 q_882 q_45 q_883) rfl rfl rfl vd_64 ⟨Nat.le_of_ble_eq_true rfl, Nat.le_of_ble_eq_true rfl⟩) ⟨LB.blind, hg.lb hI hw⟩ rfl rfl hl.1 rfl (lv_room (Nat.le_of_ble_eq_true rfl)) dL_law_1163 ⟨show cv + 503 ≤ 600128 by omega, show sv + 20018 ≤ 7301098 by omega⟩) (fun r1 μ1 nv1 sw1 H locs hq1 hw => ?_)
  refine lv_istore (lv' := [(5, .int r1), (0, .ref b), (1, .ref (ad 0)), (2, .ref (bd 0)), (3, .ref q), (4, .int i)]) hx hb dL_law_1166 hl (by decide) rfl (fun ls hl => ?_)
  refine lv_aload_n hx hb dL_law_1168 rfl (lv_at hl 3 rfl) ?_
  refine lv_aload_n hx hb dL_law_1169 rfl (lv_at hl 1 rfl) ?_
  refine lv_iload hx hb dL_law_1170 (lv_at hl 5 rfl) ?_
  refine lv_iconst (v := (1 : Int32)) hx hb dL_law_1172 (by decide) ?_
  refine lv_iadd hx hb dL_law_1173 ?_
  refine va_sld hx hb hXs hbl hbA hw.2.2.1 (i := (i + (1 : Int32))) hv1 dL_law_1174 ?_
  refine lv_aload_n hx hb dL_law_1175 rfl (lv_at hl 1 rfl) ?_
  refine lv_iload hx hb dL_law_1176 (lv_at hl 5 rfl) ?_
  refine lv_iconst (v := (2 : Int32)) hx hb dL_law_1178 (by decide) ?_
  refine lv_iadd hx hb dL_law_1179 ?_
  refine va_sld hx hb hXs hbl hbA hw.2.2.1 (i := (i + (2 : Int32))) hv2 dL_law_1180 ?_
  refine MS_callr hw (va_runV (own := "LeastreaderLaw") (As := [.int (xs (i + (1 : Int32)).toNatClampNeg), .int (xs (i + (2 : Int32)).toNatClampNeg)]) (rest := []) ⟨hx, hb, hml, hown, ht⟩ (c_X11_text ν H.size (xs (i + (1 : Int32)).toNatClampNeg) (xs (i + (2 : Int32)).toNatClampNeg) (hRI hJI)) (cwV 2 ht (G_V q_1532 q_1533 q_1534 q_56 q_1535) rfl rfl rfl ⟨rfl, vd_65⟩ ⟨Nat.le_of_ble_eq_true rfl, Nat.le_of_ble_eq_true rfl⟩) ⟨MBS.blind, M_recv hg.2.1 hw, hg.pS hJ hw⟩ rfl rfl hl.1 rfl (lv_room (Nat.le_of_ble_eq_true rfl)) dL_law_1181 ⟨show cv + 503 + 500 ≤ 600128 by omega, show sv + 20018 + 20000 ≤ 7301098 by omega⟩) (fun r2 ν2 H locs hf2 hw => ?_)
  refine lv_astore (lv' := [(6, .ref r2), (5, .int r1), (0, .ref b), (1, .ref (ad 0)), (2, .ref (bd 0)), (3, .ref q), (4, .int i)]) hx hb dL_law_1184 hl (by decide) rfl (fun ls hl => ?_)
  refine lv_goto (tgt := 1572) hx hb dL_law_1186 (by decide) ?_
  refine W.widen (show cv + 503 + 500 ≤ cv + 2000 by omega) (show sv + 20018 + 20000 ≤ sv + 112000 by omega) ?_
  exact hJ3 μ1 ν2 nv1 sw1 H locs ls (hq1 _ hf2) hw (lv_sub hl [2, 3, 4, 5, 6] rfl)
set_option maxHeartbeats 4000000 in
set_option maxRecDepth 100000 in
theorem law_19 {p : Program} {l : Launch} {e : Env} {s : State} {m : MethodId} {b : Nat} {below : List Frame} {meth : Method} {c : Code} {L : Nat} {xs : Nat → Int32} {D : va_G} {ad bd : Nat → Nat} {cI cL cM cB : ClassId} {q : Nat} {Z : State → Prop} {JI : TMem → TMem → Prop} {i : Int32} {cv sv : Nat} (hRI : ∀ {μ ν : TMem}, JI μ ν → RI ν) (hGM : GM_kind JI) (C0 : LC p l s m b c L xs D ad bd cI cL cM cB) (hi : 0 ≤ i.toInt) (hiL : i.toInt + 6 ≤ L) (hcv : cv + 2000 ≤ 600128) (hsv : sv + 112000 ≤ 7301098) (hJ3 : LJ p l e s m b below meth c D ad bd cI cM q Z JI i (cv + 2000) (sv + 112000) 1572) : LJ p l e s m b below meth c D ad bd cI cM q Z JI i cv sv 1189 := by
  obtain ⟨hx, hb, hml, hown, ht, hg, hI, hJ, hXs, hbl, hst, hL⟩ := C0
  have hN : NW s := hg.2.2.2.2.1
  have hbA : ¬ SA s.heap.size b := Nat.not_le.mpr hbl
  intro μ ν nv sw H locs ls hJI hw hl
  have hi1 : (i + (1 : Int32)).toInt = i.toInt + 1 := ii_a rfl (show (1 : Int32).toInt = 1 from rfl) (by omega) (by omega)
  have hi2 : (i + (2 : Int32)).toInt = i.toInt + 2 := ii_a rfl (show (2 : Int32).toInt = 2 from rfl) (by omega) (by omega)
  have hi3 : (i + (3 : Int32)).toInt = i.toInt + 3 := ii_a rfl (show (3 : Int32).toInt = 3 from rfl) (by omega) (by omega)
  have hi4 : (i + (4 : Int32)).toInt = i.toInt + 4 := ii_a rfl (show (4 : Int32).toInt = 4 from rfl) (by omega) (by omega)
  have hi5 : (i + (5 : Int32)).toInt = i.toInt + 5 := ii_a rfl (show (5 : Int32).toInt = 5 from rfl) (by omega) (by omega)
  have hv0 : vp_in i L := vin (by omega)
  have hv1 : vp_in (i + (1 : Int32)) L := vin (by omega)
  have hv2 : vp_in (i + (2 : Int32)) L := vin (by omega)
  have hv3 : vp_in (i + (3 : Int32)) L := vin (by omega)
  have hv4 : vp_in (i + (4 : Int32)) L := vin (by omega)
  have hv5 : vp_in (i + (5 : Int32)) L := vin (by omega)
  refine lv_aload_n hx hb dL_law_1189 rfl (lv_at hl 1 rfl) ?_
  refine lv_aload_n hx hb dL_law_1190 rfl (lv_at hl 0 rfl) ?_
  refine lv_iload hx hb dL_law_1191 (lv_at hl 4 rfl) ?_
  refine lv_iconst (v := (1 : Int32)) hx hb dL_law_1193 (by decide) ?_
  refine lv_iadd hx hb dL_law_1194 ?_
  refine va_sld hx hb hXs hbl hbA hw.2.2.1 (i := (i + (1 : Int32))) hv1 dL_law_1195 ?_
  refine lv_aload_n hx hb dL_law_1196 rfl (lv_at hl 3 rfl) ?_
  refine LL_call hw hI (vx_runSX (own := "LeastreaderLaw") (As := [.ref (ad 0), .int (xs (i + (1 : Int32)).toNatClampNeg), .ref q]) (rest := []) ⟨hx, hb, hml, hown, ht⟩ (c_L_kind hst q nv sw μ H.size (xs (i + (1 : Int32)).toNatClampNeg) (PW := fun k u => RW_kind JI ν (xs (i + (1 : Int32)).toNatClampNeg) k u.2.1 u.1) (hGM μ ν nv (xs (i + (1 : Int32)).toNatClampNeg) hJI)) (vx_cwSW 3 ht (G_S q_1158 q_1159 q_45 q_1160) rfl rfl rfl vd_66 ⟨Nat.le_of_ble_eq_true rfl, Nat.le_of_ble_eq_true rfl⟩) ⟨LB.blind, hg.lb hI hw⟩ rfl rfl hl.1 rfl (lv_room (Nat.le_of_ble_eq_true rfl)) dL_law_1197 ⟨show cv + 2 ≤ 600128 by omega, show sv + 12 ≤ 7301098 by omega⟩) (fun r1 μ1 nv1 sw1 H locs hq1 hw => ?_)
  refine lv_istore (lv' := [(5, .int r1), (0, .ref b), (1, .ref (ad 0)), (2, .ref (bd 0)), (3, .ref q), (4, .int i)]) hx hb dL_law_1200 hl (by decide) rfl (fun ls hl => ?_)
  refine lv_aload_n hx hb dL_law_1202 rfl (lv_at hl 3 rfl) ?_
  refine lv_aload_n hx hb dL_law_1203 rfl (lv_at hl 1 rfl) ?_
  refine lv_iload hx hb dL_law_1204 (lv_at hl 5 rfl) ?_
  refine lv_iconst (v := (1 : Int32)) hx hb dL_law_1206 (by decide) ?_
  refine lv_iadd hx hb dL_law_1207 ?_
  refine va_sld hx hb hXs hbl hbA hw.2.2.1 (i := (i + (1 : Int32))) hv1 dL_law_1208 ?_
  refine M_calli hw (LZ_MA hw) (va_runV (own := "LeastreaderLaw") (As := [.int (xs (i + (1 : Int32)).toNatClampNeg)]) (rest := []) ⟨hx, hb, hml, hown, ht⟩ (c_X11_kind ν H.size (xs (i + (1 : Int32)).toNatClampNeg) hq1) (cwV 1 ht (G_V q_1545 q_1546 q_1547 q_56 q_1548) rfl rfl rfl ⟨rfl, vd_67⟩ ⟨Nat.le_of_ble_eq_true rfl, Nat.le_of_ble_eq_true rfl⟩) ⟨MB.blind, M_recv hg.2.1 hw, MB.pre hg.2.1 hJ hw va_P0 ne0⟩ rfl rfl hl.1 rfl (lv_room (Nat.le_of_ble_eq_true rfl)) dL_law_1209 ⟨show cv + 2 + 41 ≤ 600128 by omega, show sv + 12 + 1685 ≤ 7301098 by omega⟩) (fun r2 ν2 H locs hf2 hw => ?_)
  refine lv_istore (lv' := [(6, .int r2), (5, .int r1), (0, .ref b), (1, .ref (ad 0)), (2, .ref (bd 0)), (3, .ref q), (4, .int i)]) hx hb dL_law_1212 hl (by decide) rfl (fun ls hl => ?_)
  refine lv_goto (tgt := 1572) hx hb dL_law_1214 (by decide) ?_
  refine W.widen (show cv + 2 + 41 ≤ cv + 2000 by omega) (show sv + 12 + 1685 ≤ sv + 112000 by omega) ?_
  exact hJ3 μ1 ν2 nv1 sw1 H locs ls hf2 hw (lv_sub hl [2, 3, 4, 5, 6] rfl)
set_option maxHeartbeats 4000000 in
set_option maxRecDepth 100000 in
theorem law_20 {p : Program} {l : Launch} {e : Env} {s : State} {m : MethodId} {b : Nat} {below : List Frame} {meth : Method} {c : Code} {L : Nat} {xs : Nat → Int32} {D : va_G} {ad bd : Nat → Nat} {cI cL cM cB : ClassId} {q : Nat} {Z : State → Prop} {JI : TMem → TMem → Prop} {i : Int32} {cv sv : Nat} (hRI : ∀ {μ ν : TMem}, JI μ ν → RI ν) (hGM : GM_many JI) (C0 : LC p l s m b c L xs D ad bd cI cL cM cB) (hi : 0 ≤ i.toInt) (hiL : i.toInt + 6 ≤ L) (hcv : cv + 2000 ≤ 600128) (hsv : sv + 112000 ≤ 7301098) (hJ3 : LJ p l e s m b below meth c D ad bd cI cM q Z JI i (cv + 2000) (sv + 112000) 1572) : LJ p l e s m b below meth c D ad bd cI cM q Z JI i cv sv 1217 := by
  obtain ⟨hx, hb, hml, hown, ht, hg, hI, hJ, hXs, hbl, hst, hL⟩ := C0
  have hN : NW s := hg.2.2.2.2.1
  have hbA : ¬ SA s.heap.size b := Nat.not_le.mpr hbl
  intro μ ν nv sw H locs ls hJI hw hl
  have hi1 : (i + (1 : Int32)).toInt = i.toInt + 1 := ii_a rfl (show (1 : Int32).toInt = 1 from rfl) (by omega) (by omega)
  have hi2 : (i + (2 : Int32)).toInt = i.toInt + 2 := ii_a rfl (show (2 : Int32).toInt = 2 from rfl) (by omega) (by omega)
  have hi3 : (i + (3 : Int32)).toInt = i.toInt + 3 := ii_a rfl (show (3 : Int32).toInt = 3 from rfl) (by omega) (by omega)
  have hi4 : (i + (4 : Int32)).toInt = i.toInt + 4 := ii_a rfl (show (4 : Int32).toInt = 4 from rfl) (by omega) (by omega)
  have hi5 : (i + (5 : Int32)).toInt = i.toInt + 5 := ii_a rfl (show (5 : Int32).toInt = 5 from rfl) (by omega) (by omega)
  have hv0 : vp_in i L := vin (by omega)
  have hv1 : vp_in (i + (1 : Int32)) L := vin (by omega)
  have hv2 : vp_in (i + (2 : Int32)) L := vin (by omega)
  have hv3 : vp_in (i + (3 : Int32)) L := vin (by omega)
  have hv4 : vp_in (i + (4 : Int32)) L := vin (by omega)
  have hv5 : vp_in (i + (5 : Int32)) L := vin (by omega)
  refine lv_aload_n hx hb dL_law_1217 rfl (lv_at hl 1 rfl) ?_
  refine lv_aload_n hx hb dL_law_1218 rfl (lv_at hl 0 rfl) ?_
  refine lv_iload hx hb dL_law_1219 (lv_at hl 4 rfl) ?_
  refine lv_iconst (v := (1 : Int32)) hx hb dL_law_1221 (by decide) ?_
  refine lv_iadd hx hb dL_law_1222 ?_
  refine va_sld hx hb hXs hbl hbA hw.2.2.1 (i := (i + (1 : Int32))) hv1 dL_law_1223 ?_
  refine lv_aload_n hx hb dL_law_1224 rfl (lv_at hl 0 rfl) ?_
  refine lv_iload hx hb dL_law_1225 (lv_at hl 4 rfl) ?_
  refine lv_iconst (v := (2 : Int32)) hx hb dL_law_1227 (by decide) ?_
  refine lv_iadd hx hb dL_law_1228 ?_
  refine va_sld hx hb hXs hbl hbA hw.2.2.1 (i := (i + (2 : Int32))) hv2 dL_law_1229 ?_
  refine lv_aload_n hx hb dL_law_1230 rfl (lv_at hl 0 rfl) ?_
  refine lv_iload hx hb dL_law_1231 (lv_at hl 4 rfl) ?_
  refine lv_iconst (v := (3 : Int32)) hx hb dL_law_1233 (by decide) ?_
  refine lv_iadd hx hb dL_law_1234 ?_
  refine va_sld hx hb hXs hbl hbA hw.2.2.1 (i := (i + (3 : Int32))) hv3 dL_law_1235 ?_
  refine lv_aload_n hx hb dL_law_1236 rfl (lv_at hl 3 rfl) ?_
  refine LL_call hw hI (vx_runSX (own := "LeastreaderLaw") (As := [.ref (ad 0), .int (xs (i + (1 : Int32)).toNatClampNeg), .int (xs (i + (2 : Int32)).toNatClampNeg), .int (xs (i + (3 : Int32)).toNatClampNeg), .ref q]) (rest := []) ⟨hx, hb, hml, hown, ht⟩ (c_L_many hst q nv sw μ H.size (xs (i + (1 : Int32)).toNatClampNeg) (xs (i + (2 : Int32)).toNatClampNeg) (xs (i + (3 : Int32)).toNatClampNeg) (PW := fun k u => RW_many JI ν (xs (i + (1 : Int32)).toNatClampNeg) (xs (i + (2 : Int32)).toNatClampNeg) (xs (i + (3 : Int32)).toNatClampNeg) k u.2.1 u.1) (hGM μ ν nv (xs (i + (1 : Int32)).toNatClampNeg) (xs (i + (2 : Int32)).toNatClampNeg) (xs (i + (3 : Int32)).toNatClampNeg) hJI)) (vx_cwSW 5 ht (G_S q_1173 q_1174 q_45 q_1175) rfl rfl rfl vd_68 ⟨Nat.le_of_ble_eq_true rfl, Nat.le_of_ble_eq_true rfl⟩) ⟨LB.blind, hg.lb hI hw⟩ rfl rfl hl.1 rfl (lv_room (Nat.le_of_ble_eq_true rfl)) dL_law_1237 ⟨show cv + 4 ≤ 600128 by omega, show sv + 24 ≤ 7301098 by omega⟩) (fun r1 μ1 nv1 sw1 H locs hq1 hw => ?_)
  refine lv_istore (lv' := [(5, .int r1), (0, .ref b), (1, .ref (ad 0)), (2, .ref (bd 0)), (3, .ref q), (4, .int i)]) hx hb dL_law_1240 hl (by decide) rfl (fun ls hl => ?_)
  refine lv_aload_n hx hb dL_law_1242 rfl (lv_at hl 3 rfl) ?_
  refine lv_aload_n hx hb dL_law_1243 rfl (lv_at hl 1 rfl) ?_
  refine lv_iload hx hb dL_law_1244 (lv_at hl 5 rfl) ?_
  refine lv_iconst (v := (1 : Int32)) hx hb dL_law_1246 (by decide) ?_
  refine lv_iadd hx hb dL_law_1247 ?_
  refine va_sld hx hb hXs hbl hbA hw.2.2.1 (i := (i + (1 : Int32))) hv1 dL_law_1248 ?_
  refine lv_aload_n hx hb dL_law_1249 rfl (lv_at hl 1 rfl) ?_
  refine lv_iload hx hb dL_law_1250 (lv_at hl 5 rfl) ?_
  refine lv_iconst (v := (2 : Int32)) hx hb dL_law_1252 (by decide) ?_
  refine lv_iadd hx hb dL_law_1253 ?_
  refine va_sld hx hb hXs hbl hbA hw.2.2.1 (i := (i + (2 : Int32))) hv2 dL_law_1254 ?_
  refine lv_aload_n hx hb dL_law_1255 rfl (lv_at hl 1 rfl) ?_
  refine lv_iload hx hb dL_law_1256 (lv_at hl 5 rfl) ?_
  refine lv_iconst (v := (3 : Int32)) hx hb dL_law_1258 (by decide) ?_
  refine lv_iadd hx hb dL_law_1259 ?_
  refine va_sld hx hb hXs hbl hbA hw.2.2.1 (i := (i + (3 : Int32))) hv3 dL_law_1260 ?_
  refine M_calli hw (LZ_MA hw) (va_runV (own := "LeastreaderLaw") (As := [.int (xs (i + (1 : Int32)).toNatClampNeg), .int (xs (i + (2 : Int32)).toNatClampNeg), .int (xs (i + (3 : Int32)).toNatClampNeg)]) (rest := []) ⟨hx, hb, hml, hown, ht⟩ (c_X11_many ν H.size (xs (i + (1 : Int32)).toNatClampNeg) (xs (i + (2 : Int32)).toNatClampNeg) (xs (i + (3 : Int32)).toNatClampNeg) hq1) (cwV 3 ht (G_V q_1552 q_1553 q_1554 q_56 q_1555) rfl rfl rfl ⟨rfl, vd_69⟩ ⟨Nat.le_of_ble_eq_true rfl, Nat.le_of_ble_eq_true rfl⟩) ⟨MB.blind, M_recv hg.2.1 hw, MB.pre hg.2.1 hJ hw va_P0 ne0⟩ rfl rfl hl.1 rfl (lv_room (Nat.le_of_ble_eq_true rfl)) dL_law_1261 ⟨show cv + 4 + 42 ≤ 600128 by omega, show sv + 24 + 2101 ≤ 7301098 by omega⟩) (fun r2 ν2 H locs hf2 hw => ?_)
  refine lv_istore (lv' := [(6, .int r2), (5, .int r1), (0, .ref b), (1, .ref (ad 0)), (2, .ref (bd 0)), (3, .ref q), (4, .int i)]) hx hb dL_law_1264 hl (by decide) rfl (fun ls hl => ?_)
  refine lv_goto (tgt := 1572) hx hb dL_law_1266 (by decide) ?_
  refine W.widen (show cv + 4 + 42 ≤ cv + 2000 by omega) (show sv + 24 + 2101 ≤ sv + 112000 by omega) ?_
  exact hJ3 μ1 ν2 nv1 sw1 H locs ls hf2 hw (lv_sub hl [2, 3, 4, 5, 6] rfl)
