set_option maxHeartbeats 4000000 in
set_option maxRecDepth 100000 in
theorem law_21 {p : Program} {l : Launch} {e : Env} {s : State} {m : MethodId} {b : Nat} {below : List Frame} {meth : Method} {c : Code} {L : Nat} {xs : Nat → Int32} {D : va_G} {ad bd : Nat → Nat} {cI cL cM cB : ClassId} {q : Nat} {Z : State → Prop} {JI : TMem → TMem → Prop} {i : Int32} {cv sv : Nat} (hRI : ∀ {μ ν : TMem}, JI μ ν → RI ν) (hGM : GM_word JI) (C0 : LC p l s m b c L xs D ad bd cI cL cM cB) (hi : 0 ≤ i.toInt) (hiL : i.toInt + 6 ≤ L) (hcv : cv + 2000 ≤ 600128) (hsv : sv + 112000 ≤ 7301098) (hJ3 : LJ p l e s m b below meth c D ad bd cI cM q Z JI i (cv + 2000) (sv + 112000) 1572) : LJ p l e s m b below meth c D ad bd cI cM q Z JI i cv sv 1269 := by
  obtain ⟨hx, hb, hml, hown, ht, hg, hI, hJ, hXs, hbl, hst, hL⟩ := C0
  have hN : NW s := hg.2.2.2.2.1
  have hbA : ¬ SA s.heap.size b := Nat.not_le.mpr hbl
  intro μ ν nv sw H locs ls hJI hw hl
  have hi1 : (i + (1 : Int32)).toInt = i.toInt + 1 := ii_a rfl (show (1 : Int32).toInt = 1 from rfl) (by omega) (by omega)
  have hi2 : (i + (2 : Int32)).toInt = i.toInt + 2 := ii_a rfl (show (2 : Int32).toInt = 2 from rfl) (by omega) (by omega)
  have hi3 : (i + (3 : Int32)).toInt = i.toInt + 3 := ii_a rfl (show (3 : Int32).toInt = 3 from rfl) (by omega) (by omega)
  have hi4 : (i + (4 : Int32)).toInt = i.toInt + 4 := ii_a rfl (show (4 : Int32).toInt = 4 from rfl) (by omega) (by omega)
  have hi5 : (i + (5 : Int32)).toInt = i.toInt + 5 := ii_a rfl (show (5 : Int32).toInt = 5 from rfl) (by omega) (by omega)
  have hv0 : vp_in i L := vin (by omega)
  have hv1 : vp_in (i + (1 : Int32)) L := vin (by omega)
  have hv2 : vp_in (i + (2 : Int32)) L := vin (by omega)
  have hv3 : vp_in (i + (3 : Int32)) L := vin (by omega)
  have hv4 : vp_in (i + (4 : Int32)) L := vin (by omega)
  have hv5 : vp_in (i + (5 : Int32)) L := vin (by omega)
  refine lv_aload_n hx hb dL_law_1269 rfl (lv_at hl 1 rfl) ?_
  refine lv_aload_n hx hb dL_law_1270 rfl (lv_at hl 0 rfl) ?_
  refine lv_iload hx hb dL_law_1271 (lv_at hl 4 rfl) ?_
  refine lv_iconst (v := (1 : Int32)) hx hb dL_law_1273 (by decide) ?_
  refine lv_iadd hx hb dL_law_1274 ?_
  refine va_sld hx hb hXs hbl hbA hw.2.2.1 (i := (i + (1 : Int32))) hv1 dL_law_1275 ?_
  refine lv_aload_n hx hb dL_law_1276 rfl (lv_at hl 0 rfl) ?_
  refine lv_iload hx hb dL_law_1277 (lv_at hl 4 rfl) ?_
  refine lv_iconst (v := (2 : Int32)) hx hb dL_law_1279 (by decide) ?_
  refine lv_iadd hx hb dL_law_1280 ?_
  refine va_sld hx hb hXs hbl hbA hw.2.2.1 (i := (i + (2 : Int32))) hv2 dL_law_1281 ?_
  refine lv_aload_n hx hb dL_law_1282 rfl (lv_at hl 3 rfl) ?_
  refine LL_call hw hI (vx_runSX (own := "LeastreaderLaw") (As := [.ref (ad 0), .int (xs (i + (1 : Int32)).toNatClampNeg), .int (xs (i + (2 : Int32)).toNatClampNeg), .ref q]) (rest := []) ⟨hx, hb, hml, hown, ht⟩ (c_L_word hst q nv sw μ H.size (xs (i + (1 : Int32)).toNatClampNeg) (xs (i + (2 : Int32)).toNatClampNeg) (PW := fun _ u => RW_word JI ν u.1) (hGM μ ν (xs (i + (1 : Int32)).toNatClampNeg) (xs (i + (2 : Int32)).toNatClampNeg) hJI)) (vx_cwSW 4 ht (G_S q_1203 q_1204 q_45 q_1205) rfl rfl rfl vd_70 ⟨Nat.le_of_ble_eq_true rfl, Nat.le_of_ble_eq_true rfl⟩) ⟨LB.blind, hg.lb hI hw⟩ rfl rfl hl.1 rfl (lv_room (Nat.le_of_ble_eq_true rfl)) dL_law_1283 ⟨show cv + 504 ≤ 600128 by omega, show sv + 20019 ≤ 7301098 by omega⟩) (fun r1 μ1 nv1 sw1 H locs hq1 hw => ?_)
  refine lv_istore (lv' := [(5, .int r1), (0, .ref b), (1, .ref (ad 0)), (2, .ref (bd 0)), (3, .ref q), (4, .int i)]) hx hb dL_law_1286 hl (by decide) rfl (fun ls hl => ?_)
  refine lv_aload_n hx hb dL_law_1288 rfl (lv_at hl 3 rfl) ?_
  refine lv_aload_n hx hb dL_law_1289 rfl (lv_at hl 1 rfl) ?_
  refine lv_iload hx hb dL_law_1290 (lv_at hl 5 rfl) ?_
  refine lv_iconst (v := (1 : Int32)) hx hb dL_law_1292 (by decide) ?_
  refine lv_iadd hx hb dL_law_1293 ?_
  refine va_sld hx hb hXs hbl hbA hw.2.2.1 (i := (i + (1 : Int32))) hv1 dL_law_1294 ?_
  refine lv_aload_n hx hb dL_law_1295 rfl (lv_at hl 1 rfl) ?_
  refine lv_iload hx hb dL_law_1296 (lv_at hl 5 rfl) ?_
  refine lv_iconst (v := (2 : Int32)) hx hb dL_law_1298 (by decide) ?_
  refine lv_iadd hx hb dL_law_1299 ?_
  refine va_sld hx hb hXs hbl hbA hw.2.2.1 (i := (i + (2 : Int32))) hv2 dL_law_1300 ?_
  refine MS_callr hw (va_runV (own := "LeastreaderLaw") (As := [.int (xs (i + (1 : Int32)).toNatClampNeg), .int (xs (i + (2 : Int32)).toNatClampNeg)]) (rest := []) ⟨hx, hb, hml, hown, ht⟩ (c_X11_word ν H.size (xs (i + (1 : Int32)).toNatClampNeg) (xs (i + (2 : Int32)).toNatClampNeg) (hRI hJI)) (cwV 2 ht (G_V q_1559 q_1560 q_1561 q_56 q_1562) rfl rfl rfl ⟨rfl, vd_71⟩ ⟨Nat.le_of_ble_eq_true rfl, Nat.le_of_ble_eq_true rfl⟩) ⟨MBS.blind, M_recv hg.2.1 hw, hg.pS hJ hw⟩ rfl rfl hl.1 rfl (lv_room (Nat.le_of_ble_eq_true rfl)) dL_law_1301 ⟨show cv + 504 + 500 ≤ 600128 by omega, show sv + 20019 + 20000 ≤ 7301098 by omega⟩) (fun r2 ν2 H locs hf2 hw => ?_)
  refine lv_astore (lv' := [(6, .ref r2), (5, .int r1), (0, .ref b), (1, .ref (ad 0)), (2, .ref (bd 0)), (3, .ref q), (4, .int i)]) hx hb dL_law_1304 hl (by decide) rfl (fun ls hl => ?_)
  refine lv_goto (tgt := 1572) hx hb dL_law_1306 (by decide) ?_
  refine W.widen (show cv + 504 + 500 ≤ cv + 2000 by omega) (show sv + 20019 + 20000 ≤ sv + 112000 by omega) ?_
  exact hJ3 μ1 ν2 nv1 sw1 H locs ls (hq1 _ hf2) hw (lv_sub hl [2, 3, 4, 5, 6] rfl)
set_option maxHeartbeats 4000000 in
set_option maxRecDepth 100000 in
theorem law_22 {p : Program} {l : Launch} {e : Env} {s : State} {m : MethodId} {b : Nat} {below : List Frame} {meth : Method} {c : Code} {L : Nat} {xs : Nat → Int32} {D : va_G} {ad bd : Nat → Nat} {cI cL cM cB : ClassId} {q : Nat} {Z : State → Prop} {JI : TMem → TMem → Prop} {i : Int32} {cv sv : Nat} (hRI : ∀ {μ ν : TMem}, JI μ ν → RI ν) (hGM : GM_isAlike JI) (C0 : LC p l s m b c L xs D ad bd cI cL cM cB) (hi : 0 ≤ i.toInt) (hiL : i.toInt + 6 ≤ L) (hcv : cv + 2000 ≤ 600128) (hsv : sv + 112000 ≤ 7301098) (hJ3 : LJ p l e s m b below meth c D ad bd cI cM q Z JI i (cv + 2000) (sv + 112000) 1572) : LJ p l e s m b below meth c D ad bd cI cM q Z JI i cv sv 1309 := by
  obtain ⟨hx, hb, hml, hown, ht, hg, hI, hJ, hXs, hbl, hst, hL⟩ := C0
  have hN : NW s := hg.2.2.2.2.1
  have hbA : ¬ SA s.heap.size b := Nat.not_le.mpr hbl
  intro μ ν nv sw H locs ls hJI hw hl
  have hi1 : (i + (1 : Int32)).toInt = i.toInt + 1 := ii_a rfl (show (1 : Int32).toInt = 1 from rfl) (by omega) (by omega)
  have hi2 : (i + (2 : Int32)).toInt = i.toInt + 2 := ii_a rfl (show (2 : Int32).toInt = 2 from rfl) (by omega) (by omega)
  have hi3 : (i + (3 : Int32)).toInt = i.toInt + 3 := ii_a rfl (show (3 : Int32).toInt = 3 from rfl) (by omega) (by omega)
  have hi4 : (i + (4 : Int32)).toInt = i.toInt + 4 := ii_a rfl (show (4 : Int32).toInt = 4 from rfl) (by omega) (by omega)
  have hi5 : (i + (5 : Int32)).toInt = i.toInt + 5 := ii_a rfl (show (5 : Int32).toInt = 5 from rfl) (by omega) (by omega)
  have hv0 : vp_in i L := vin (by omega)
  have hv1 : vp_in (i + (1 : Int32)) L := vin (by omega)
  have hv2 : vp_in (i + (2 : Int32)) L := vin (by omega)
  have hv3 : vp_in (i + (3 : Int32)) L := vin (by omega)
  have hv4 : vp_in (i + (4 : Int32)) L := vin (by omega)
  have hv5 : vp_in (i + (5 : Int32)) L := vin (by omega)
  refine lv_aload_n hx hb dL_law_1309 rfl (lv_at hl 1 rfl) ?_
  refine lv_aload_n hx hb dL_law_1310 rfl (lv_at hl 0 rfl) ?_
  refine lv_iload hx hb dL_law_1311 (lv_at hl 4 rfl) ?_
  refine lv_iconst (v := (1 : Int32)) hx hb dL_law_1313 (by decide) ?_
  refine lv_iadd hx hb dL_law_1314 ?_
  refine va_sld hx hb hXs hbl hbA hw.2.2.1 (i := (i + (1 : Int32))) hv1 dL_law_1315 ?_
  refine lv_aload_n hx hb dL_law_1316 rfl (lv_at hl 0 rfl) ?_
  refine lv_iload hx hb dL_law_1317 (lv_at hl 4 rfl) ?_
  refine lv_iconst (v := (2 : Int32)) hx hb dL_law_1319 (by decide) ?_
  refine lv_iadd hx hb dL_law_1320 ?_
  refine va_sld hx hb hXs hbl hbA hw.2.2.1 (i := (i + (2 : Int32))) hv2 dL_law_1321 ?_
  refine lv_aload_n hx hb dL_law_1322 rfl (lv_at hl 0 rfl) ?_
  refine lv_iload hx hb dL_law_1323 (lv_at hl 4 rfl) ?_
  refine lv_iconst (v := (3 : Int32)) hx hb dL_law_1325 (by decide) ?_
  refine lv_iadd hx hb dL_law_1326 ?_
  refine va_sld hx hb hXs hbl hbA hw.2.2.1 (i := (i + (3 : Int32))) hv3 dL_law_1327 ?_
  refine lv_aload_n hx hb dL_law_1328 rfl (lv_at hl 3 rfl) ?_
  refine LL_call hw hI (vx_runSX (own := "LeastreaderLaw") (As := [.ref (ad 0), .int (xs (i + (1 : Int32)).toNatClampNeg), .int (xs (i + (2 : Int32)).toNatClampNeg), .int (xs (i + (3 : Int32)).toNatClampNeg), .ref q]) (rest := []) ⟨hx, hb, hml, hown, ht⟩ (c_L_isAlike hst q nv sw μ H.size (xs (i + (1 : Int32)).toNatClampNeg) (xs (i + (2 : Int32)).toNatClampNeg) (xs (i + (3 : Int32)).toNatClampNeg) (PW := fun k u => RW_isAlike JI ν (xs (i + (1 : Int32)).toNatClampNeg) (xs (i + (2 : Int32)).toNatClampNeg) (xs (i + (3 : Int32)).toNatClampNeg) k u.2.1 u.1) (hGM μ ν nv (xs (i + (1 : Int32)).toNatClampNeg) (xs (i + (2 : Int32)).toNatClampNeg) (xs (i + (3 : Int32)).toNatClampNeg) hJI)) (vx_cwSW 5 ht (G_S q_1227 q_1228 q_45 q_1229) rfl rfl rfl vd_72 ⟨Nat.le_of_ble_eq_true rfl, Nat.le_of_ble_eq_true rfl⟩) ⟨LB.blind, hg.lb hI hw⟩ rfl rfl hl.1 rfl (lv_room (Nat.le_of_ble_eq_true rfl)) dL_law_1329 ⟨show cv + 6 ≤ 600128 by omega, show sv + 36 ≤ 7301098 by omega⟩) (fun r1 μ1 nv1 sw1 H locs hq1 hw => ?_)
  refine lv_istore (lv' := [(5, .int r1), (0, .ref b), (1, .ref (ad 0)), (2, .ref (bd 0)), (3, .ref q), (4, .int i)]) hx hb dL_law_1332 hl (by decide) rfl (fun ls hl => ?_)
  refine lv_aload_n hx hb dL_law_1334 rfl (lv_at hl 3 rfl) ?_
  refine lv_aload_n hx hb dL_law_1335 rfl (lv_at hl 1 rfl) ?_
  refine lv_iload hx hb dL_law_1336 (lv_at hl 5 rfl) ?_
  refine lv_iconst (v := (1 : Int32)) hx hb dL_law_1338 (by decide) ?_
  refine lv_iadd hx hb dL_law_1339 ?_
  refine va_sld hx hb hXs hbl hbA hw.2.2.1 (i := (i + (1 : Int32))) hv1 dL_law_1340 ?_
  refine lv_aload_n hx hb dL_law_1341 rfl (lv_at hl 1 rfl) ?_
  refine lv_iload hx hb dL_law_1342 (lv_at hl 5 rfl) ?_
  refine lv_iconst (v := (2 : Int32)) hx hb dL_law_1344 (by decide) ?_
  refine lv_iadd hx hb dL_law_1345 ?_
  refine va_sld hx hb hXs hbl hbA hw.2.2.1 (i := (i + (2 : Int32))) hv2 dL_law_1346 ?_
  refine lv_aload_n hx hb dL_law_1347 rfl (lv_at hl 1 rfl) ?_
  refine lv_iload hx hb dL_law_1348 (lv_at hl 5 rfl) ?_
  refine lv_iconst (v := (3 : Int32)) hx hb dL_law_1350 (by decide) ?_
  refine lv_iadd hx hb dL_law_1351 ?_
  refine va_sld hx hb hXs hbl hbA hw.2.2.1 (i := (i + (3 : Int32))) hv3 dL_law_1352 ?_
  refine M_calli hw (LZ_MA hw) (va_runV (own := "LeastreaderLaw") (As := [.int (xs (i + (1 : Int32)).toNatClampNeg), .int (xs (i + (2 : Int32)).toNatClampNeg), .int (xs (i + (3 : Int32)).toNatClampNeg)]) (rest := []) ⟨hx, hb, hml, hown, ht⟩ (c_X11_isAlike ν H.size (xs (i + (1 : Int32)).toNatClampNeg) (xs (i + (2 : Int32)).toNatClampNeg) (xs (i + (3 : Int32)).toNatClampNeg) hq1) (cwV 3 ht (G_V q_1563 q_1564 q_1565 q_56 q_1566) rfl rfl rfl ⟨rfl, vd_73⟩ ⟨Nat.le_of_ble_eq_true rfl, Nat.le_of_ble_eq_true rfl⟩) ⟨MB.blind, M_recv hg.2.1 hw, MB.pre hg.2.1 hJ hw va_P0 ne0⟩ rfl rfl hl.1 rfl (lv_room (Nat.le_of_ble_eq_true rfl)) dL_law_1353 ⟨show cv + 6 + 82 ≤ 600128 by omega, show sv + 36 + 3370 ≤ 7301098 by omega⟩) (fun r2 ν2 H locs hf2 hw => ?_)
  refine lv_istore (lv' := [(6, .int r2), (5, .int r1), (0, .ref b), (1, .ref (ad 0)), (2, .ref (bd 0)), (3, .ref q), (4, .int i)]) hx hb dL_law_1356 hl (by decide) rfl (fun ls hl => ?_)
  refine lv_goto (tgt := 1572) hx hb dL_law_1358 (by decide) ?_
  refine W.widen (show cv + 6 + 82 ≤ cv + 2000 by omega) (show sv + 36 + 3370 ≤ sv + 112000 by omega) ?_
  exact hJ3 μ1 ν2 nv1 sw1 H locs ls hf2 hw (lv_sub hl [2, 3, 4, 5, 6] rfl)
set_option maxHeartbeats 4000000 in
set_option maxRecDepth 100000 in
theorem law_23 {p : Program} {l : Launch} {e : Env} {s : State} {m : MethodId} {b : Nat} {below : List Frame} {meth : Method} {c : Code} {L : Nat} {xs : Nat → Int32} {D : va_G} {ad bd : Nat → Nat} {cI cL cM cB : ClassId} {q : Nat} {Z : State → Prop} {JI : TMem → TMem → Prop} {i : Int32} {cv sv : Nat} (hRI : ∀ {μ ν : TMem}, JI μ ν → RI ν) (hGM : GM_apart JI) (C0 : LC p l s m b c L xs D ad bd cI cL cM cB) (hi : 0 ≤ i.toInt) (hiL : i.toInt + 6 ≤ L) (hcv : cv + 2000 ≤ 600128) (hsv : sv + 112000 ≤ 7301098) (hJ3 : LJ p l e s m b below meth c D ad bd cI cM q Z JI i (cv + 2000) (sv + 112000) 1572) : LJ p l e s m b below meth c D ad bd cI cM q Z JI i cv sv 1361 := by
  obtain ⟨hx, hb, hml, hown, ht, hg, hI, hJ, hXs, hbl, hst, hL⟩ := C0
  have hN : NW s := hg.2.2.2.2.1
  have hbA : ¬ SA s.heap.size b := Nat.not_le.mpr hbl
  intro μ ν nv sw H locs ls hJI hw hl
  have hi1 : (i + (1 : Int32)).toInt = i.toInt + 1 := ii_a rfl (show (1 : Int32).toInt = 1 from rfl) (by omega) (by omega)
  have hi2 : (i + (2 : Int32)).toInt = i.toInt + 2 := ii_a rfl (show (2 : Int32).toInt = 2 from rfl) (by omega) (by omega)
  have hi3 : (i + (3 : Int32)).toInt = i.toInt + 3 := ii_a rfl (show (3 : Int32).toInt = 3 from rfl) (by omega) (by omega)
  have hi4 : (i + (4 : Int32)).toInt = i.toInt + 4 := ii_a rfl (show (4 : Int32).toInt = 4 from rfl) (by omega) (by omega)
  have hi5 : (i + (5 : Int32)).toInt = i.toInt + 5 := ii_a rfl (show (5 : Int32).toInt = 5 from rfl) (by omega) (by omega)
  have hv0 : vp_in i L := vin (by omega)
  have hv1 : vp_in (i + (1 : Int32)) L := vin (by omega)
  have hv2 : vp_in (i + (2 : Int32)) L := vin (by omega)
  have hv3 : vp_in (i + (3 : Int32)) L := vin (by omega)
  have hv4 : vp_in (i + (4 : Int32)) L := vin (by omega)
  have hv5 : vp_in (i + (5 : Int32)) L := vin (by omega)
  refine lv_aload_n hx hb dL_law_1361 rfl (lv_at hl 1 rfl) ?_
  refine lv_aload_n hx hb dL_law_1362 rfl (lv_at hl 0 rfl) ?_
  refine lv_iload hx hb dL_law_1363 (lv_at hl 4 rfl) ?_
  refine lv_iconst (v := (1 : Int32)) hx hb dL_law_1365 (by decide) ?_
  refine lv_iadd hx hb dL_law_1366 ?_
  refine va_sld hx hb hXs hbl hbA hw.2.2.1 (i := (i + (1 : Int32))) hv1 dL_law_1367 ?_
  refine lv_aload_n hx hb dL_law_1368 rfl (lv_at hl 0 rfl) ?_
  refine lv_iload hx hb dL_law_1369 (lv_at hl 4 rfl) ?_
  refine lv_iconst (v := (2 : Int32)) hx hb dL_law_1371 (by decide) ?_
  refine lv_iadd hx hb dL_law_1372 ?_
  refine va_sld hx hb hXs hbl hbA hw.2.2.1 (i := (i + (2 : Int32))) hv2 dL_law_1373 ?_
  refine lv_aload_n hx hb dL_law_1374 rfl (lv_at hl 3 rfl) ?_
  refine LL_call hw hI (vx_runSX (own := "LeastreaderLaw") (As := [.ref (ad 0), .int (xs (i + (1 : Int32)).toNatClampNeg), .int (xs (i + (2 : Int32)).toNatClampNeg), .ref q]) (rest := []) ⟨hx, hb, hml, hown, ht⟩ (c_L_apart hst q nv sw μ H.size (xs (i + (1 : Int32)).toNatClampNeg) (xs (i + (2 : Int32)).toNatClampNeg) (PW := fun _ u => RW_apart JI ν u.1) (hGM μ ν (xs (i + (1 : Int32)).toNatClampNeg) (xs (i + (2 : Int32)).toNatClampNeg) hJI)) (vx_cwSW 4 ht (G_S q_1238 q_1239 q_45 q_1240) rfl rfl rfl vd_74 ⟨Nat.le_of_ble_eq_true rfl, Nat.le_of_ble_eq_true rfl⟩) ⟨LB.blind, hg.lb hI hw⟩ rfl rfl hl.1 rfl (lv_room (Nat.le_of_ble_eq_true rfl)) dL_law_1375 ⟨show cv + 503 ≤ 600128 by omega, show sv + 20018 ≤ 7301098 by omega⟩) (fun r1 μ1 nv1 sw1 H locs hq1 hw => ?_)
  refine lv_istore (lv' := [(5, .int r1), (0, .ref b), (1, .ref (ad 0)), (2, .ref (bd 0)), (3, .ref q), (4, .int i)]) hx hb dL_law_1378 hl (by decide) rfl (fun ls hl => ?_)
  refine lv_aload_n hx hb dL_law_1380 rfl (lv_at hl 3 rfl) ?_
  refine lv_aload_n hx hb dL_law_1381 rfl (lv_at hl 1 rfl) ?_
  refine lv_iload hx hb dL_law_1382 (lv_at hl 5 rfl) ?_
  refine lv_iconst (v := (1 : Int32)) hx hb dL_law_1384 (by decide) ?_
  refine lv_iadd hx hb dL_law_1385 ?_
  refine va_sld hx hb hXs hbl hbA hw.2.2.1 (i := (i + (1 : Int32))) hv1 dL_law_1386 ?_
  refine lv_aload_n hx hb dL_law_1387 rfl (lv_at hl 1 rfl) ?_
  refine lv_iload hx hb dL_law_1388 (lv_at hl 5 rfl) ?_
  refine lv_iconst (v := (2 : Int32)) hx hb dL_law_1390 (by decide) ?_
  refine lv_iadd hx hb dL_law_1391 ?_
  refine va_sld hx hb hXs hbl hbA hw.2.2.1 (i := (i + (2 : Int32))) hv2 dL_law_1392 ?_
  refine MS_callr hw (va_runV (own := "LeastreaderLaw") (As := [.int (xs (i + (1 : Int32)).toNatClampNeg), .int (xs (i + (2 : Int32)).toNatClampNeg)]) (rest := []) ⟨hx, hb, hml, hown, ht⟩ (c_X11_apart ν H.size (xs (i + (1 : Int32)).toNatClampNeg) (xs (i + (2 : Int32)).toNatClampNeg) (hRI hJI)) (cwV 2 ht (G_V q_1575 q_1576 q_1577 q_56 q_1578) rfl rfl rfl ⟨rfl, vd_75⟩ ⟨Nat.le_of_ble_eq_true rfl, Nat.le_of_ble_eq_true rfl⟩) ⟨MBS.blind, M_recv hg.2.1 hw, hg.pS hJ hw⟩ rfl rfl hl.1 rfl (lv_room (Nat.le_of_ble_eq_true rfl)) dL_law_1393 ⟨show cv + 503 + 1400 ≤ 600128 by omega, show sv + 20018 + 91500 ≤ 7301098 by omega⟩) (fun r2 ν2 H locs hf2 hw => ?_)
  refine lv_astore (lv' := [(6, .ref r2), (5, .int r1), (0, .ref b), (1, .ref (ad 0)), (2, .ref (bd 0)), (3, .ref q), (4, .int i)]) hx hb dL_law_1396 hl (by decide) rfl (fun ls hl => ?_)
  refine lv_goto (tgt := 1572) hx hb dL_law_1398 (by decide) ?_
  refine W.widen (show cv + 503 + 1400 ≤ cv + 2000 by omega) (show sv + 20018 + 91500 ≤ sv + 112000 by omega) ?_
  exact hJ3 μ1 ν2 nv1 sw1 H locs ls (hq1 _ hf2) hw (lv_sub hl [2, 3, 4, 5, 6] rfl)
set_option maxHeartbeats 4000000 in
set_option maxRecDepth 100000 in
theorem law_24 {p : Program} {l : Launch} {e : Env} {s : State} {m : MethodId} {b : Nat} {below : List Frame} {meth : Method} {c : Code} {L : Nat} {xs : Nat → Int32} {D : va_G} {ad bd : Nat → Nat} {cI cL cM cB : ClassId} {q : Nat} {Z : State → Prop} {JI : TMem → TMem → Prop} {i : Int32} {cv sv : Nat} (hRI : ∀ {μ ν : TMem}, JI μ ν → RI ν) (hGM : GM_pairs JI) (C0 : LC p l s m b c L xs D ad bd cI cL cM cB) (hi : 0 ≤ i.toInt) (hiL : i.toInt + 6 ≤ L) (hcv : cv + 2000 ≤ 600128) (hsv : sv + 112000 ≤ 7301098) (hJ3 : LJ p l e s m b below meth c D ad bd cI cM q Z JI i (cv + 2000) (sv + 112000) 1572) : LJ p l e s m b below meth c D ad bd cI cM q Z JI i cv sv 1401 := by
  obtain ⟨hx, hb, hml, hown, ht, hg, hI, hJ, hXs, hbl, hst, hL⟩ := C0
  have hN : NW s := hg.2.2.2.2.1
  have hbA : ¬ SA s.heap.size b := Nat.not_le.mpr hbl
  intro μ ν nv sw H locs ls hJI hw hl
  have hi1 : (i + (1 : Int32)).toInt = i.toInt + 1 := ii_a rfl (show (1 : Int32).toInt = 1 from rfl) (by omega) (by omega)
  have hi2 : (i + (2 : Int32)).toInt = i.toInt + 2 := ii_a rfl (show (2 : Int32).toInt = 2 from rfl) (by omega) (by omega)
  have hi3 : (i + (3 : Int32)).toInt = i.toInt + 3 := ii_a rfl (show (3 : Int32).toInt = 3 from rfl) (by omega) (by omega)
  have hi4 : (i + (4 : Int32)).toInt = i.toInt + 4 := ii_a rfl (show (4 : Int32).toInt = 4 from rfl) (by omega) (by omega)
  have hi5 : (i + (5 : Int32)).toInt = i.toInt + 5 := ii_a rfl (show (5 : Int32).toInt = 5 from rfl) (by omega) (by omega)
  have hv0 : vp_in i L := vin (by omega)
  have hv1 : vp_in (i + (1 : Int32)) L := vin (by omega)
  have hv2 : vp_in (i + (2 : Int32)) L := vin (by omega)
  have hv3 : vp_in (i + (3 : Int32)) L := vin (by omega)
  have hv4 : vp_in (i + (4 : Int32)) L := vin (by omega)
  have hv5 : vp_in (i + (5 : Int32)) L := vin (by omega)
  refine lv_aload_n hx hb dL_law_1401 rfl (lv_at hl 1 rfl) ?_
  refine lv_aload_n hx hb dL_law_1402 rfl (lv_at hl 0 rfl) ?_
  refine lv_iload hx hb dL_law_1403 (lv_at hl 4 rfl) ?_
  refine lv_iconst (v := (1 : Int32)) hx hb dL_law_1405 (by decide) ?_
  refine lv_iadd hx hb dL_law_1406 ?_
  refine va_sld hx hb hXs hbl hbA hw.2.2.1 (i := (i + (1 : Int32))) hv1 dL_law_1407 ?_
  refine lv_aload_n hx hb dL_law_1408 rfl (lv_at hl 0 rfl) ?_
  refine lv_iload hx hb dL_law_1409 (lv_at hl 4 rfl) ?_
  refine lv_iconst (v := (2 : Int32)) hx hb dL_law_1411 (by decide) ?_
  refine lv_iadd hx hb dL_law_1412 ?_
  refine va_sld hx hb hXs hbl hbA hw.2.2.1 (i := (i + (2 : Int32))) hv2 dL_law_1413 ?_
  refine lv_aload_n hx hb dL_law_1414 rfl (lv_at hl 3 rfl) ?_
  refine LL_call hw hI (vx_runSX (own := "LeastreaderLaw") (As := [.ref (ad 0), .int (xs (i + (1 : Int32)).toNatClampNeg), .int (xs (i + (2 : Int32)).toNatClampNeg), .ref q]) (rest := []) ⟨hx, hb, hml, hown, ht⟩ (c_L_pairs hst q nv sw μ H.size (xs (i + (1 : Int32)).toNatClampNeg) (xs (i + (2 : Int32)).toNatClampNeg) (PW := fun k u => RW_pairs JI ν (xs (i + (1 : Int32)).toNatClampNeg) (xs (i + (2 : Int32)).toNatClampNeg) k u.2.1 u.1) (hGM μ ν nv (xs (i + (1 : Int32)).toNatClampNeg) (xs (i + (2 : Int32)).toNatClampNeg) hJI)) (vx_cwSW 4 ht (G_S q_1286 q_1287 q_45 q_1288) rfl rfl rfl vd_76 ⟨Nat.le_of_ble_eq_true rfl, Nat.le_of_ble_eq_true rfl⟩) ⟨LB.blind, hg.lb hI hw⟩ rfl rfl hl.1 rfl (lv_room (Nat.le_of_ble_eq_true rfl)) dL_law_1415 ⟨show cv + 3 ≤ 600128 by omega, show sv + 18 ≤ 7301098 by omega⟩) (fun r1 μ1 nv1 sw1 H locs hq1 hw => ?_)
  refine lv_istore (lv' := [(5, .int r1), (0, .ref b), (1, .ref (ad 0)), (2, .ref (bd 0)), (3, .ref q), (4, .int i)]) hx hb dL_law_1418 hl (by decide) rfl (fun ls hl => ?_)
  refine lv_aload_n hx hb dL_law_1420 rfl (lv_at hl 3 rfl) ?_
  refine lv_aload_n hx hb dL_law_1421 rfl (lv_at hl 1 rfl) ?_
  refine lv_iload hx hb dL_law_1422 (lv_at hl 5 rfl) ?_
  refine lv_iconst (v := (1 : Int32)) hx hb dL_law_1424 (by decide) ?_
  refine lv_iadd hx hb dL_law_1425 ?_
  refine va_sld hx hb hXs hbl hbA hw.2.2.1 (i := (i + (1 : Int32))) hv1 dL_law_1426 ?_
  refine lv_aload_n hx hb dL_law_1427 rfl (lv_at hl 1 rfl) ?_
  refine lv_iload hx hb dL_law_1428 (lv_at hl 5 rfl) ?_
  refine lv_iconst (v := (2 : Int32)) hx hb dL_law_1430 (by decide) ?_
  refine lv_iadd hx hb dL_law_1431 ?_
  refine va_sld hx hb hXs hbl hbA hw.2.2.1 (i := (i + (2 : Int32))) hv2 dL_law_1432 ?_
  refine M_calli hw (LZ_MA hw) (va_runV (own := "LeastreaderLaw") (As := [.int (xs (i + (1 : Int32)).toNatClampNeg), .int (xs (i + (2 : Int32)).toNatClampNeg)]) (rest := []) ⟨hx, hb, hml, hown, ht⟩ (c_X11_pairs ν H.size (xs (i + (1 : Int32)).toNatClampNeg) (xs (i + (2 : Int32)).toNatClampNeg) hq1) (cwV 2 ht (G_V q_1580 q_1581 q_1582 q_56 q_1583) rfl rfl rfl ⟨rfl, vd_77⟩ ⟨Nat.le_of_ble_eq_true rfl, Nat.le_of_ble_eq_true rfl⟩) ⟨MB.blind, M_recv hg.2.1 hw, MB.pre hg.2.1 hJ hw va_P0 ne0⟩ rfl rfl hl.1 rfl (lv_room (Nat.le_of_ble_eq_true rfl)) dL_law_1433 ⟨show cv + 3 + 9 ≤ 600128 by omega, show sv + 18 + 1222 ≤ 7301098 by omega⟩) (fun r2 ν2 H locs hf2 hw => ?_)
  refine lv_istore (lv' := [(6, .int r2), (5, .int r1), (0, .ref b), (1, .ref (ad 0)), (2, .ref (bd 0)), (3, .ref q), (4, .int i)]) hx hb dL_law_1436 hl (by decide) rfl (fun ls hl => ?_)
  refine lv_goto (tgt := 1572) hx hb dL_law_1438 (by decide) ?_
  refine W.widen (show cv + 3 + 9 ≤ cv + 2000 by omega) (show sv + 18 + 1222 ≤ sv + 112000 by omega) ?_
  exact hJ3 μ1 ν2 nv1 sw1 H locs ls hf2 hw (lv_sub hl [2, 3, 4, 5, 6] rfl)
set_option maxHeartbeats 4000000 in
set_option maxRecDepth 100000 in
theorem law_25 {p : Program} {l : Launch} {e : Env} {s : State} {m : MethodId} {b : Nat} {below : List Frame} {meth : Method} {c : Code} {L : Nat} {xs : Nat → Int32} {D : va_G} {ad bd : Nat → Nat} {cI cL cM cB : ClassId} {q : Nat} {Z : State → Prop} {JI : TMem → TMem → Prop} {i : Int32} {cv sv : Nat} (hRI : ∀ {μ ν : TMem}, JI μ ν → RI ν) (hGM : GM_together JI) (C0 : LC p l s m b c L xs D ad bd cI cL cM cB) (hi : 0 ≤ i.toInt) (hiL : i.toInt + 6 ≤ L) (hcv : cv + 2000 ≤ 600128) (hsv : sv + 112000 ≤ 7301098) (hJ3 : LJ p l e s m b below meth c D ad bd cI cM q Z JI i (cv + 2000) (sv + 112000) 1572) : LJ p l e s m b below meth c D ad bd cI cM q Z JI i cv sv 1441 := by
  obtain ⟨hx, hb, hml, hown, ht, hg, hI, hJ, hXs, hbl, hst, hL⟩ := C0
  have hN : NW s := hg.2.2.2.2.1
  have hbA : ¬ SA s.heap.size b := Nat.not_le.mpr hbl
  intro μ ν nv sw H locs ls hJI hw hl
  have hi1 : (i + (1 : Int32)).toInt = i.toInt + 1 := ii_a rfl (show (1 : Int32).toInt = 1 from rfl) (by omega) (by omega)
  have hi2 : (i + (2 : Int32)).toInt = i.toInt + 2 := ii_a rfl (show (2 : Int32).toInt = 2 from rfl) (by omega) (by omega)
  have hi3 : (i + (3 : Int32)).toInt = i.toInt + 3 := ii_a rfl (show (3 : Int32).toInt = 3 from rfl) (by omega) (by omega)
  have hi4 : (i + (4 : Int32)).toInt = i.toInt + 4 := ii_a rfl (show (4 : Int32).toInt = 4 from rfl) (by omega) (by omega)
  have hi5 : (i + (5 : Int32)).toInt = i.toInt + 5 := ii_a rfl (show (5 : Int32).toInt = 5 from rfl) (by omega) (by omega)
  have hv0 : vp_in i L := vin (by omega)
  have hv1 : vp_in (i + (1 : Int32)) L := vin (by omega)
  have hv2 : vp_in (i + (2 : Int32)) L := vin (by omega)
  have hv3 : vp_in (i + (3 : Int32)) L := vin (by omega)
  have hv4 : vp_in (i + (4 : Int32)) L := vin (by omega)
  have hv5 : vp_in (i + (5 : Int32)) L := vin (by omega)
  refine lv_aload_n hx hb dL_law_1441 rfl (lv_at hl 1 rfl) ?_
  refine lv_aload_n hx hb dL_law_1442 rfl (lv_at hl 0 rfl) ?_
  refine lv_iload hx hb dL_law_1443 (lv_at hl 4 rfl) ?_
  refine lv_iconst (v := (1 : Int32)) hx hb dL_law_1445 (by decide) ?_
  refine lv_iadd hx hb dL_law_1446 ?_
  refine va_sld hx hb hXs hbl hbA hw.2.2.1 (i := (i + (1 : Int32))) hv1 dL_law_1447 ?_
  refine lv_aload_n hx hb dL_law_1448 rfl (lv_at hl 0 rfl) ?_
  refine lv_iload hx hb dL_law_1449 (lv_at hl 4 rfl) ?_
  refine lv_iconst (v := (2 : Int32)) hx hb dL_law_1451 (by decide) ?_
  refine lv_iadd hx hb dL_law_1452 ?_
  refine va_sld hx hb hXs hbl hbA hw.2.2.1 (i := (i + (2 : Int32))) hv2 dL_law_1453 ?_
  refine lv_aload_n hx hb dL_law_1454 rfl (lv_at hl 0 rfl) ?_
  refine lv_iload hx hb dL_law_1455 (lv_at hl 4 rfl) ?_
  refine lv_iconst (v := (3 : Int32)) hx hb dL_law_1457 (by decide) ?_
  refine lv_iadd hx hb dL_law_1458 ?_
  refine va_sld hx hb hXs hbl hbA hw.2.2.1 (i := (i + (3 : Int32))) hv3 dL_law_1459 ?_
  refine lv_aload_n hx hb dL_law_1460 rfl (lv_at hl 0 rfl) ?_
  refine lv_iload hx hb dL_law_1461 (lv_at hl 4 rfl) ?_
  refine lv_iconst (v := (4 : Int32)) hx hb dL_law_1463 (by decide) ?_
  refine lv_iadd hx hb dL_law_1464 ?_
  refine va_sld hx hb hXs hbl hbA hw.2.2.1 (i := (i + (4 : Int32))) hv4 dL_law_1465 ?_
  refine lv_aload_n hx hb dL_law_1466 rfl (lv_at hl 3 rfl) ?_
  refine LL_call hw hI (vx_runSX (own := "LeastreaderLaw") (As := [.ref (ad 0), .int (xs (i + (1 : Int32)).toNatClampNeg), .int (xs (i + (2 : Int32)).toNatClampNeg), .int (xs (i + (3 : Int32)).toNatClampNeg), .int (xs (i + (4 : Int32)).toNatClampNeg), .ref q]) (rest := []) ⟨hx, hb, hml, hown, ht⟩ (c_L_together hst q nv sw μ H.size (xs (i + (1 : Int32)).toNatClampNeg) (xs (i + (2 : Int32)).toNatClampNeg) (xs (i + (3 : Int32)).toNatClampNeg) (xs (i + (4 : Int32)).toNatClampNeg) (PW := fun k u => RW_together JI ν (xs (i + (1 : Int32)).toNatClampNeg) (xs (i + (2 : Int32)).toNatClampNeg) (xs (i + (3 : Int32)).toNatClampNeg) (xs (i + (4 : Int32)).toNatClampNeg) k u.2.1 u.1) (hGM μ ν nv (xs (i + (1 : Int32)).toNatClampNeg) (xs (i + (2 : Int32)).toNatClampNeg) (xs (i + (3 : Int32)).toNatClampNeg) (xs (i + (4 : Int32)).toNatClampNeg) hJI)) (vx_cwSW 6 ht (G_S q_1293 q_1294 q_45 q_1295) rfl rfl rfl vd_78 ⟨Nat.le_of_ble_eq_true rfl, Nat.le_of_ble_eq_true rfl⟩) ⟨LB.blind, hg.lb hI hw⟩ rfl rfl hl.1 rfl (lv_room (Nat.le_of_ble_eq_true rfl)) dL_law_1467 ⟨show cv + 5 ≤ 600128 by omega, show sv + 30 ≤ 7301098 by omega⟩) (fun r1 μ1 nv1 sw1 H locs hq1 hw => ?_)
  refine lv_istore (lv' := [(5, .int r1), (0, .ref b), (1, .ref (ad 0)), (2, .ref (bd 0)), (3, .ref q), (4, .int i)]) hx hb dL_law_1470 hl (by decide) rfl (fun ls hl => ?_)
  refine lv_aload_n hx hb dL_law_1472 rfl (lv_at hl 3 rfl) ?_
  refine lv_aload_n hx hb dL_law_1473 rfl (lv_at hl 1 rfl) ?_
  refine lv_iload hx hb dL_law_1474 (lv_at hl 5 rfl) ?_
  refine lv_iconst (v := (1 : Int32)) hx hb dL_law_1476 (by decide) ?_
  refine lv_iadd hx hb dL_law_1477 ?_
  refine va_sld hx hb hXs hbl hbA hw.2.2.1 (i := (i + (1 : Int32))) hv1 dL_law_1478 ?_
  refine lv_aload_n hx hb dL_law_1479 rfl (lv_at hl 1 rfl) ?_
  refine lv_iload hx hb dL_law_1480 (lv_at hl 5 rfl) ?_
  refine lv_iconst (v := (2 : Int32)) hx hb dL_law_1482 (by decide) ?_
  refine lv_iadd hx hb dL_law_1483 ?_
  refine va_sld hx hb hXs hbl hbA hw.2.2.1 (i := (i + (2 : Int32))) hv2 dL_law_1484 ?_
  refine lv_aload_n hx hb dL_law_1485 rfl (lv_at hl 1 rfl) ?_
  refine lv_iload hx hb dL_law_1486 (lv_at hl 5 rfl) ?_
  refine lv_iconst (v := (3 : Int32)) hx hb dL_law_1488 (by decide) ?_
  refine lv_iadd hx hb dL_law_1489 ?_
  refine va_sld hx hb hXs hbl hbA hw.2.2.1 (i := (i + (3 : Int32))) hv3 dL_law_1490 ?_
  refine lv_aload_n hx hb dL_law_1491 rfl (lv_at hl 1 rfl) ?_
  refine lv_iload hx hb dL_law_1492 (lv_at hl 5 rfl) ?_
  refine lv_iconst (v := (4 : Int32)) hx hb dL_law_1494 (by decide) ?_
  refine lv_iadd hx hb dL_law_1495 ?_
  refine va_sld hx hb hXs hbl hbA hw.2.2.1 (i := (i + (4 : Int32))) hv4 dL_law_1496 ?_
  refine M_calli hw (LZ_MA hw) (va_runV (own := "LeastreaderLaw") (As := [.int (xs (i + (1 : Int32)).toNatClampNeg), .int (xs (i + (2 : Int32)).toNatClampNeg), .int (xs (i + (3 : Int32)).toNatClampNeg), .int (xs (i + (4 : Int32)).toNatClampNeg)]) (rest := []) ⟨hx, hb, hml, hown, ht⟩ (c_X11_together ν H.size (xs (i + (1 : Int32)).toNatClampNeg) (xs (i + (2 : Int32)).toNatClampNeg) (xs (i + (3 : Int32)).toNatClampNeg) (xs (i + (4 : Int32)).toNatClampNeg) hq1) (cwV 4 ht (G_V q_1584 q_1585 q_1586 q_56 q_1587) rfl rfl rfl ⟨rfl, vd_79⟩ ⟨Nat.le_of_ble_eq_true rfl, Nat.le_of_ble_eq_true rfl⟩) ⟨MB.blind, M_recv hg.2.1 hw, MB.pre hg.2.1 hJ hw va_P0 ne0⟩ rfl rfl hl.1 rfl (lv_room (Nat.le_of_ble_eq_true rfl)) dL_law_1497 ⟨show cv + 5 + 48 ≤ 600128 by omega, show sv + 30 + 3142 ≤ 7301098 by omega⟩) (fun r2 ν2 H locs hf2 hw => ?_)
  refine lv_istore (lv' := [(6, .int r2), (5, .int r1), (0, .ref b), (1, .ref (ad 0)), (2, .ref (bd 0)), (3, .ref q), (4, .int i)]) hx hb dL_law_1500 hl (by decide) rfl (fun ls hl => ?_)
  refine lv_goto (tgt := 1572) hx hb dL_law_1502 (by decide) ?_
  refine W.widen (show cv + 5 + 48 ≤ cv + 2000 by omega) (show sv + 30 + 3142 ≤ sv + 112000 by omega) ?_
  exact hJ3 μ1 ν2 nv1 sw1 H locs ls hf2 hw (lv_sub hl [2, 3, 4, 5, 6] rfl)
set_option maxHeartbeats 4000000 in
set_option maxRecDepth 100000 in
theorem law_26 {p : Program} {l : Launch} {e : Env} {s : State} {m : MethodId} {b : Nat} {below : List Frame} {meth : Method} {c : Code} {L : Nat} {xs : Nat → Int32} {D : va_G} {ad bd : Nat → Nat} {cI cL cM cB : ClassId} {q : Nat} {Z : State → Prop} {JI : TMem → TMem → Prop} {i : Int32} {cv sv : Nat} (hRI : ∀ {μ ν : TMem}, JI μ ν → RI ν) (hGM : GM_house JI) (C0 : LC p l s m b c L xs D ad bd cI cL cM cB) (hi : 0 ≤ i.toInt) (hiL : i.toInt + 6 ≤ L) (hcv : cv + 2000 ≤ 600128) (hsv : sv + 112000 ≤ 7301098) (hJ3 : LJ p l e s m b below meth c D ad bd cI cM q Z JI i (cv + 2000) (sv + 112000) 1572) : LJ p l e s m b below meth c D ad bd cI cM q Z JI i cv sv 1505 := by
  obtain ⟨hx, hb, hml, hown, ht, hg, hI, hJ, hXs, hbl, hst, hL⟩ := C0
  have hN : NW s := hg.2.2.2.2.1
  have hbA : ¬ SA s.heap.size b := Nat.not_le.mpr hbl
  intro μ ν nv sw H locs ls hJI hw hl
  have hi1 : (i + (1 : Int32)).toInt = i.toInt + 1 := ii_a rfl (show (1 : Int32).toInt = 1 from rfl) (by omega) (by omega)
  have hi2 : (i + (2 : Int32)).toInt = i.toInt + 2 := ii_a rfl (show (2 : Int32).toInt = 2 from rfl) (by omega) (by omega)
  have hi3 : (i + (3 : Int32)).toInt = i.toInt + 3 := ii_a rfl (show (3 : Int32).toInt = 3 from rfl) (by omega) (by omega)
  have hi4 : (i + (4 : Int32)).toInt = i.toInt + 4 := ii_a rfl (show (4 : Int32).toInt = 4 from rfl) (by omega) (by omega)
  have hi5 : (i + (5 : Int32)).toInt = i.toInt + 5 := ii_a rfl (show (5 : Int32).toInt = 5 from rfl) (by omega) (by omega)
  have hv0 : vp_in i L := vin (by omega)
  have hv1 : vp_in (i + (1 : Int32)) L := vin (by omega)
  have hv2 : vp_in (i + (2 : Int32)) L := vin (by omega)
  have hv3 : vp_in (i + (3 : Int32)) L := vin (by omega)
  have hv4 : vp_in (i + (4 : Int32)) L := vin (by omega)
  have hv5 : vp_in (i + (5 : Int32)) L := vin (by omega)
  refine lv_aload_n hx hb dL_law_1505 rfl (lv_at hl 1 rfl) ?_
  refine lv_aload_n hx hb dL_law_1506 rfl (lv_at hl 0 rfl) ?_
  refine lv_iload hx hb dL_law_1507 (lv_at hl 4 rfl) ?_
  refine lv_iconst (v := (1 : Int32)) hx hb dL_law_1509 (by decide) ?_
  refine lv_iadd hx hb dL_law_1510 ?_
  refine va_sld hx hb hXs hbl hbA hw.2.2.1 (i := (i + (1 : Int32))) hv1 dL_law_1511 ?_
  refine lv_aload_n hx hb dL_law_1512 rfl (lv_at hl 3 rfl) ?_
  refine LL_call hw hI (vx_runSX (own := "LeastreaderLaw") (As := [.ref (ad 0), .int (xs (i + (1 : Int32)).toNatClampNeg), .ref q]) (rest := []) ⟨hx, hb, hml, hown, ht⟩ (c_L_house hst q nv sw μ H.size (xs (i + (1 : Int32)).toNatClampNeg) (PW := fun k u => RW_house JI ν (xs (i + (1 : Int32)).toNatClampNeg) k u.2.1 u.1) (hGM μ ν nv (xs (i + (1 : Int32)).toNatClampNeg) hJI)) (vx_cwSW 3 ht (G_S q_1300 q_1301 q_45 q_1302) rfl rfl rfl vd_80 ⟨Nat.le_of_ble_eq_true rfl, Nat.le_of_ble_eq_true rfl⟩) ⟨LB.blind, hg.lb hI hw⟩ rfl rfl hl.1 rfl (lv_room (Nat.le_of_ble_eq_true rfl)) dL_law_1513 ⟨show cv + 1 ≤ 600128 by omega, show sv + 6 ≤ 7301098 by omega⟩) (fun r1 μ1 nv1 sw1 H locs hq1 hw => ?_)
  refine lv_istore (lv' := [(5, .int r1), (0, .ref b), (1, .ref (ad 0)), (2, .ref (bd 0)), (3, .ref q), (4, .int i)]) hx hb dL_law_1516 hl (by decide) rfl (fun ls hl => ?_)
  refine lv_aload_n hx hb dL_law_1518 rfl (lv_at hl 3 rfl) ?_
  refine lv_aload_n hx hb dL_law_1519 rfl (lv_at hl 1 rfl) ?_
  refine lv_iload hx hb dL_law_1520 (lv_at hl 5 rfl) ?_
  refine lv_iconst (v := (1 : Int32)) hx hb dL_law_1522 (by decide) ?_
  refine lv_iadd hx hb dL_law_1523 ?_
  refine va_sld hx hb hXs hbl hbA hw.2.2.1 (i := (i + (1 : Int32))) hv1 dL_law_1524 ?_
  refine M_calli hw (LZ_MA hw) (va_runV (own := "LeastreaderLaw") (As := [.int (xs (i + (1 : Int32)).toNatClampNeg)]) (rest := []) ⟨hx, hb, hml, hown, ht⟩ (c_X11_house ν H.size (xs (i + (1 : Int32)).toNatClampNeg) hq1) (cwV 1 ht (G_V q_1588 q_1589 q_1590 q_56 q_1591) rfl rfl rfl ⟨rfl, vd_81⟩ ⟨Nat.le_of_ble_eq_true rfl, Nat.le_of_ble_eq_true rfl⟩) ⟨MB.blind, M_recv hg.2.1 hw, MB.pre hg.2.1 hJ hw va_P0 ne0⟩ rfl rfl hl.1 rfl (lv_room (Nat.le_of_ble_eq_true rfl)) dL_law_1525 ⟨show cv + 1 + 0 ≤ 600128 by omega, show sv + 6 + 0 ≤ 7301098 by omega⟩) (fun r2 ν2 H locs hf2 hw => ?_)
  refine lv_istore (lv' := [(6, .int r2), (5, .int r1), (0, .ref b), (1, .ref (ad 0)), (2, .ref (bd 0)), (3, .ref q), (4, .int i)]) hx hb dL_law_1528 hl (by decide) rfl (fun ls hl => ?_)
  refine lv_goto (tgt := 1572) hx hb dL_law_1530 (by decide) ?_
  refine W.widen (show cv + 1 + 0 ≤ cv + 2000 by omega) (show sv + 6 + 0 ≤ sv + 112000 by omega) ?_
  exact hJ3 μ1 ν2 nv1 sw1 H locs ls hf2 hw (lv_sub hl [2, 3, 4, 5, 6] rfl)
set_option maxHeartbeats 4000000 in
set_option maxRecDepth 100000 in
theorem law_27 {p : Program} {l : Launch} {e : Env} {s : State} {m : MethodId} {b : Nat} {below : List Frame} {meth : Method} {c : Code} {L : Nat} {xs : Nat → Int32} {D : va_G} {ad bd : Nat → Nat} {cI cL cM cB : ClassId} {q : Nat} {Z : State → Prop} {JI : TMem → TMem → Prop} {i : Int32} {cv sv : Nat} (hRI : ∀ {μ ν : TMem}, JI μ ν → RI ν) (hGM : GM_knock JI) (C0 : LC p l s m b c L xs D ad bd cI cL cM cB) (hi : 0 ≤ i.toInt) (hiL : i.toInt + 6 ≤ L) (hcv : cv + 2000 ≤ 600128) (hsv : sv + 112000 ≤ 7301098) (hJ3 : LJ p l e s m b below meth c D ad bd cI cM q Z JI i (cv + 2000) (sv + 112000) 1572) : LJ p l e s m b below meth c D ad bd cI cM q Z JI i cv sv 1533 := by
  obtain ⟨hx, hb, hml, hown, ht, hg, hI, hJ, hXs, hbl, hst, hL⟩ := C0
  have hN : NW s := hg.2.2.2.2.1
  have hbA : ¬ SA s.heap.size b := Nat.not_le.mpr hbl
  intro μ ν nv sw H locs ls hJI hw hl
  have hi1 : (i + (1 : Int32)).toInt = i.toInt + 1 := ii_a rfl (show (1 : Int32).toInt = 1 from rfl) (by omega) (by omega)
  have hi2 : (i + (2 : Int32)).toInt = i.toInt + 2 := ii_a rfl (show (2 : Int32).toInt = 2 from rfl) (by omega) (by omega)
  have hi3 : (i + (3 : Int32)).toInt = i.toInt + 3 := ii_a rfl (show (3 : Int32).toInt = 3 from rfl) (by omega) (by omega)
  have hi4 : (i + (4 : Int32)).toInt = i.toInt + 4 := ii_a rfl (show (4 : Int32).toInt = 4 from rfl) (by omega) (by omega)
  have hi5 : (i + (5 : Int32)).toInt = i.toInt + 5 := ii_a rfl (show (5 : Int32).toInt = 5 from rfl) (by omega) (by omega)
  have hv0 : vp_in i L := vin (by omega)
  have hv1 : vp_in (i + (1 : Int32)) L := vin (by omega)
  have hv2 : vp_in (i + (2 : Int32)) L := vin (by omega)
  have hv3 : vp_in (i + (3 : Int32)) L := vin (by omega)
  have hv4 : vp_in (i + (4 : Int32)) L := vin (by omega)
  have hv5 : vp_in (i + (5 : Int32)) L := vin (by omega)
  refine lv_aload_n hx hb dL_law_1533 rfl (lv_at hl 1 rfl) ?_
  refine LL_ti hw hI (va_runV (own := "LeastreaderLaw") (As := []) (rest := []) ⟨hx, hb, hml, hown, ht⟩ (c_X9_knock μ H.size (hGM μ ν hJI)) (cwV 0 ht (G_V q_306 q_307 q_308 q_46 q_309) rfl rfl rfl ⟨rfl, vd_82⟩ ⟨Nat.le_of_ble_eq_true rfl, Nat.le_of_ble_eq_true rfl⟩) ⟨TB.blind, LL_rv hg hw, hg.pT hI hw⟩ rfl rfl hl.1 rfl (lv_room (Nat.le_of_ble_eq_true rfl)) dL_law_1534 ⟨show cv + 0 ≤ 600128 by omega, show sv + 0 ≤ 7301098 by omega⟩) (fun r1 μ1 H locs hq1 hw => ?_)
  refine lv_pop hx hb dL_law_1537 rfl ?_
  refine lv_aload_n hx hb dL_law_1538 rfl (lv_at hl 2 rfl) ?_
  refine M_calli hw (LZ_MA hw) (va_runV (own := "LeastreaderLaw") (As := []) (rest := []) ⟨hx, hb, hml, hown, ht⟩ (c_X11_knock ν H.size  hq1) (cwV 0 ht (G_V q_1592 q_1593 q_1594 q_56 q_1595) rfl rfl rfl ⟨rfl, vd_83⟩ ⟨Nat.le_of_ble_eq_true rfl, Nat.le_of_ble_eq_true rfl⟩) ⟨MB.blind, M_recv hg.2.1 hw, MB.pre hg.2.1 hJ hw va_P0 ne0⟩ rfl rfl hl.1 rfl (lv_room (Nat.le_of_ble_eq_true rfl)) dL_law_1539 ⟨show cv + 0 + 0 ≤ 600128 by omega, show sv + 0 + 0 ≤ 7301098 by omega⟩) (fun r2 ν2 H locs hf2 hw => ?_)
  refine lv_pop hx hb dL_law_1542 rfl ?_
  refine lv_goto (tgt := 1572) hx hb dL_law_1543 (by decide) ?_
  refine W.widen (show cv + 0 + 0 ≤ cv + 2000 by omega) (show sv + 0 + 0 ≤ sv + 112000 by omega) ?_
  exact hJ3 μ1 ν2 nv sw H locs ls hf2 hw (lv_sub hl [0, 1, 2, 3, 4] rfl)
set_option maxHeartbeats 4000000 in
set_option maxRecDepth 100000 in
theorem law_28 {p : Program} {l : Launch} {e : Env} {s : State} {m : MethodId} {b : Nat} {below : List Frame} {meth : Method} {c : Code} {L : Nat} {xs : Nat → Int32} {D : va_G} {ad bd : Nat → Nat} {cI cL cM cB : ClassId} {q : Nat} {Z : State → Prop} {JI : TMem → TMem → Prop} {i : Int32} {cv sv : Nat} (hRI : ∀ {μ ν : TMem}, JI μ ν → RI ν) (hGM : GM_isSound JI) (C0 : LC p l s m b c L xs D ad bd cI cL cM cB) (hi : 0 ≤ i.toInt) (hiL : i.toInt + 6 ≤ L) (hcv : cv + 2000 ≤ 600128) (hsv : sv + 112000 ≤ 7301098) (hJ3 : LJ p l e s m b below meth c D ad bd cI cM q Z JI i (cv + 2000) (sv + 112000) 1572) : LJ p l e s m b below meth c D ad bd cI cM q Z JI i cv sv 1546 := by
  obtain ⟨hx, hb, hml, hown, ht, hg, hI, hJ, hXs, hbl, hst, hL⟩ := C0
  have hN : NW s := hg.2.2.2.2.1
  have hbA : ¬ SA s.heap.size b := Nat.not_le.mpr hbl
  intro μ ν nv sw H locs ls hJI hw hl
  have hi1 : (i + (1 : Int32)).toInt = i.toInt + 1 := ii_a rfl (show (1 : Int32).toInt = 1 from rfl) (by omega) (by omega)
  have hi2 : (i + (2 : Int32)).toInt = i.toInt + 2 := ii_a rfl (show (2 : Int32).toInt = 2 from rfl) (by omega) (by omega)
  have hi3 : (i + (3 : Int32)).toInt = i.toInt + 3 := ii_a rfl (show (3 : Int32).toInt = 3 from rfl) (by omega) (by omega)
  have hi4 : (i + (4 : Int32)).toInt = i.toInt + 4 := ii_a rfl (show (4 : Int32).toInt = 4 from rfl) (by omega) (by omega)
  have hi5 : (i + (5 : Int32)).toInt = i.toInt + 5 := ii_a rfl (show (5 : Int32).toInt = 5 from rfl) (by omega) (by omega)
  have hv0 : vp_in i L := vin (by omega)
  have hv1 : vp_in (i + (1 : Int32)) L := vin (by omega)
  have hv2 : vp_in (i + (2 : Int32)) L := vin (by omega)
  have hv3 : vp_in (i + (3 : Int32)) L := vin (by omega)
  have hv4 : vp_in (i + (4 : Int32)) L := vin (by omega)
  have hv5 : vp_in (i + (5 : Int32)) L := vin (by omega)
  refine lv_aload_n hx hb dL_law_1546 rfl (lv_at hl 1 rfl) ?_
  refine LL_xi (X := fun _ _ => False) (fun _ _ h => h) hw hI (vx_runV (own := "LeastreaderLaw") (As := []) (rest := []) ⟨hx, hb, hml, hown, ht⟩ (c_X9_isSound hst μ H.size (hGM μ ν hJI)) (cwV 0 ht (G_V q_310 q_311 q_312 q_46 q_313) rfl rfl rfl ⟨rfl, vd_84⟩ ⟨Nat.le_of_ble_eq_true rfl, Nat.le_of_ble_eq_true rfl⟩) ⟨TBX.blind, LL_rv hg hw, hg.pX hI hw⟩ rfl rfl hl.1 rfl (lv_room (Nat.le_of_ble_eq_true rfl)) dL_law_1547 ⟨show cv + 1 ≤ 600128 by omega, show sv + 6 ≤ 7301098 by omega⟩) (fun r1 μ1 H locs hq1 hw => ?_)
  refine lv_pop hx hb dL_law_1550 rfl ?_
  refine lv_aload_n hx hb dL_law_1551 rfl (lv_at hl 2 rfl) ?_
  refine M_calli hw (LZ_MA hw) (va_runV (own := "LeastreaderLaw") (As := []) (rest := []) ⟨hx, hb, hml, hown, ht⟩ (c_X11_isSound ν H.size  hq1) (cwV 0 ht (G_V q_1596 q_1597 q_1598 q_56 q_1599) rfl rfl rfl ⟨rfl, vd_85⟩ ⟨Nat.le_of_ble_eq_true rfl, Nat.le_of_ble_eq_true rfl⟩) ⟨MB.blind, M_recv hg.2.1 hw, MB.pre hg.2.1 hJ hw va_P0 ne0⟩ rfl rfl hl.1 rfl (lv_room (Nat.le_of_ble_eq_true rfl)) dL_law_1552 ⟨show cv + 1 + 0 ≤ 600128 by omega, show sv + 6 + 0 ≤ 7301098 by omega⟩) (fun r2 ν2 H locs hf2 hw => ?_)
  refine lv_pop hx hb dL_law_1555 rfl ?_
  refine lv_goto (tgt := 1572) hx hb dL_law_1556 (by decide) ?_
  refine W.widen (show cv + 1 + 0 ≤ cv + 2000 by omega) (show sv + 6 + 0 ≤ sv + 112000 by omega) ?_
  exact hJ3 μ1 ν2 nv sw H locs ls hf2 hw (lv_sub hl [0, 1, 2, 3, 4] rfl)
set_option maxHeartbeats 4000000 in
set_option maxRecDepth 100000 in
theorem law_29 {p : Program} {l : Launch} {e : Env} {s : State} {m : MethodId} {b : Nat} {below : List Frame} {meth : Method} {c : Code} {L : Nat} {xs : Nat → Int32} {D : va_G} {ad bd : Nat → Nat} {cI cL cM cB : ClassId} {q : Nat} {Z : State → Prop} {JI : TMem → TMem → Prop} {i : Int32} {cv sv : Nat} (hRI : ∀ {μ ν : TMem}, JI μ ν → RI ν) (hGM : GM_digest JI) (C0 : LC p l s m b c L xs D ad bd cI cL cM cB) (hi : 0 ≤ i.toInt) (hiL : i.toInt + 6 ≤ L) (hcv : cv + 2000 ≤ 600128) (hsv : sv + 112000 ≤ 7301098) (hJ3 : LJ p l e s m b below meth c D ad bd cI cM q Z JI i (cv + 2000) (sv + 112000) 1572) : LJ p l e s m b below meth c D ad bd cI cM q Z JI i cv sv 1559 := by
  obtain ⟨hx, hb, hml, hown, ht, hg, hI, hJ, hXs, hbl, hst, hL⟩ := C0
  have hN : NW s := hg.2.2.2.2.1
  have hbA : ¬ SA s.heap.size b := Nat.not_le.mpr hbl
  intro μ ν nv sw H locs ls hJI hw hl
  have hi1 : (i + (1 : Int32)).toInt = i.toInt + 1 := ii_a rfl (show (1 : Int32).toInt = 1 from rfl) (by omega) (by omega)
  have hi2 : (i + (2 : Int32)).toInt = i.toInt + 2 := ii_a rfl (show (2 : Int32).toInt = 2 from rfl) (by omega) (by omega)
  have hi3 : (i + (3 : Int32)).toInt = i.toInt + 3 := ii_a rfl (show (3 : Int32).toInt = 3 from rfl) (by omega) (by omega)
  have hi4 : (i + (4 : Int32)).toInt = i.toInt + 4 := ii_a rfl (show (4 : Int32).toInt = 4 from rfl) (by omega) (by omega)
  have hi5 : (i + (5 : Int32)).toInt = i.toInt + 5 := ii_a rfl (show (5 : Int32).toInt = 5 from rfl) (by omega) (by omega)
  have hv0 : vp_in i L := vin (by omega)
  have hv1 : vp_in (i + (1 : Int32)) L := vin (by omega)
  have hv2 : vp_in (i + (2 : Int32)) L := vin (by omega)
  have hv3 : vp_in (i + (3 : Int32)) L := vin (by omega)
  have hv4 : vp_in (i + (4 : Int32)) L := vin (by omega)
  have hv5 : vp_in (i + (5 : Int32)) L := vin (by omega)
  refine lv_aload_n hx hb dL_law_1559 rfl (lv_at hl 1 rfl) ?_
  refine LL_xl (X := fun _ _ => False) (fun _ _ h => h) hw hI (vx_runV (own := "LeastreaderLaw") (As := []) (rest := []) ⟨hx, hb, hml, hown, ht⟩ (c_X9_digest hst μ H.size (hGM μ ν hJI)) (cwV 0 ht (G_V q_550 q_551 q_552 q_46 q_553) rfl rfl rfl ⟨rfl, vd_86⟩ ⟨Nat.le_of_ble_eq_true rfl, Nat.le_of_ble_eq_true rfl⟩) ⟨TBX.blind, LL_rv hg hw, hg.pX hI hw⟩ rfl rfl hl.1 rfl (lv_room (Nat.le_of_ble_eq_true rfl)) dL_law_1560 ⟨show cv + 1 ≤ 600128 by omega, show sv + 6 ≤ 7301098 by omega⟩) (fun r1 μ1 H locs hq1 hw => ?_)
  refine lv_pop2_2 hx hb dL_law_1563 rfl ?_
  refine lv_aload_n hx hb dL_law_1564 rfl (lv_at hl 2 rfl) ?_
  refine M_calll hw (LZ_MA hw) (va_runV (own := "LeastreaderLaw") (As := []) (rest := []) ⟨hx, hb, hml, hown, ht⟩ (c_X11_digest ν H.size  hq1) (cwV 0 ht (G_V q_1600 q_1601 q_1602 q_56 q_1603) rfl rfl rfl ⟨rfl, vd_87⟩ ⟨Nat.le_of_ble_eq_true rfl, Nat.le_of_ble_eq_true rfl⟩) ⟨MB.blind, M_recv hg.2.1 hw, MB.pre hg.2.1 hJ hw va_P0 ne0⟩ rfl rfl hl.1 rfl (lv_room (Nat.le_of_ble_eq_true rfl)) dL_law_1565 ⟨show cv + 1 + 0 ≤ 600128 by omega, show sv + 6 + 0 ≤ 7301098 by omega⟩) (fun r2 ν2 H locs hf2 hw => ?_)
  refine lv_pop2_2 hx hb dL_law_1568 rfl ?_
  refine lv_goto (tgt := 1572) hx hb dL_law_1569 (by decide) ?_
  refine W.widen (show cv + 1 + 0 ≤ cv + 2000 by omega) (show sv + 6 + 0 ≤ sv + 112000 by omega) ?_
  exact hJ3 μ1 ν2 nv sw H locs ls hf2 hw (lv_sub hl [0, 1, 2, 3, 4] rfl)
