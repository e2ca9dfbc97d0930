set_option maxHeartbeats 4000000 in
set_option maxRecDepth 100000 in
theorem law_20 {p : Program} {l : Launch} {e : Env} {s : State} {m : MethodId} {b : Nat} {below : List Frame} {meth : Method} {c : Code} {L : Nat} {xs : Nat → Int32} {D : va_G} {ad bd : Nat → Nat} {cI cL cM cB : ClassId} {q : Nat} {Z : State → Prop} {i : Int32} {cv sv : Nat} (C0 : LC p l s m b c L xs D ad bd cI cL cM cB) (hi : 0 ≤ i.toInt) (hiL : i.toInt + 6 ≤ L) (hcv : cv + 2000 ≤ 600128) (hsv : sv + 112000 ≤ 7301098) (hJ3 : LJ p l e s m b below meth c D ad bd cI cM q Z i (cv + 2000) (sv + 112000) 1543) : LJ p l e s m b below meth c D ad bd cI cM q Z i cv sv 1188 := by
  obtain ⟨hx, hb, hml, hown, ht, hg, hI, hJ, hXs, hbl, hst, hL⟩ := C0
  have hbA : ¬ SA s.heap.size b := Nat.not_le.mpr hbl
  intro μ ν nv sw H locs ls hK0 hG hR hw hl
  have hi1 : (i + (1 : Int32)).toInt = i.toInt + 1 := ii_a rfl (show (1 : Int32).toInt = 1 from rfl) (by omega) (by omega)
  have hi2 : (i + (2 : Int32)).toInt = i.toInt + 2 := ii_a rfl (show (2 : Int32).toInt = 2 from rfl) (by omega) (by omega)
  have hi3 : (i + (3 : Int32)).toInt = i.toInt + 3 := ii_a rfl (show (3 : Int32).toInt = 3 from rfl) (by omega) (by omega)
  have hi4 : (i + (4 : Int32)).toInt = i.toInt + 4 := ii_a rfl (show (4 : Int32).toInt = 4 from rfl) (by omega) (by omega)
  have hi5 : (i + (5 : Int32)).toInt = i.toInt + 5 := ii_a rfl (show (5 : Int32).toInt = 5 from rfl) (by omega) (by omega)
  have hv0 : vp_in i L := vin (by omega)
  have hv1 : vp_in (i + (1 : Int32)) L := vin (by omega)
  have hv2 : vp_in (i + (2 : Int32)) L := vin (by omega)
  have hv3 : vp_in (i + (3 : Int32)) L := vin (by omega)
  have hv4 : vp_in (i + (4 : Int32)) L := vin (by omega)
  have hv5 : vp_in (i + (5 : Int32)) L := vin (by omega)
  refine lv_aload_n hx hb dL_law_1188 rfl (lv_at hl 1 rfl) ?_
  refine lv_aload_n hx hb dL_law_1189 rfl (lv_at hl 0 rfl) ?_
  refine lv_iload hx hb dL_law_1190 (lv_at hl 4 rfl) ?_
  refine lv_iconst (v := (1 : Int32)) hx hb dL_law_1192 (by decide) ?_
  refine lv_iadd hx hb dL_law_1193 ?_
  refine va_sld hx hb hXs hbl hbA hw.2.2.1 (i := (i + (1 : Int32))) hv1 dL_law_1194 ?_
  refine lv_aload_n hx hb dL_law_1195 rfl (lv_at hl 0 rfl) ?_
  refine lv_iload hx hb dL_law_1196 (lv_at hl 4 rfl) ?_
  refine lv_iconst (v := (2 : Int32)) hx hb dL_law_1198 (by decide) ?_
  refine lv_iadd hx hb dL_law_1199 ?_
  refine va_sld hx hb hXs hbl hbA hw.2.2.1 (i := (i + (2 : Int32))) hv2 dL_law_1200 ?_
  refine lv_aload_n hx hb dL_law_1201 rfl (lv_at hl 0 rfl) ?_
  refine lv_iload hx hb dL_law_1202 (lv_at hl 4 rfl) ?_
  refine lv_iconst (v := (3 : Int32)) hx hb dL_law_1204 (by decide) ?_
  refine lv_iadd hx hb dL_law_1205 ?_
  refine va_sld hx hb hXs hbl hbA hw.2.2.1 (i := (i + (3 : Int32))) hv3 dL_law_1206 ?_
  refine lv_aload_n hx hb dL_law_1207 rfl (lv_at hl 3 rfl) ?_
  refine LL_call hw hI (vx_runSX (own := "LeastreaderLaw") (As := [.ref (ad 0), .int (xs (i + (1 : Int32)).toNatClampNeg), .int (xs (i + (2 : Int32)).toNatClampNeg), .int (xs (i + (3 : Int32)).toNatClampNeg), .ref q]) (rest := []) ⟨hx, hb, hml, hown, ht⟩ (c_L_many hst q nv sw μ H.size (xs (i + (1 : Int32)).toNatClampNeg) (xs (i + (2 : Int32)).toNatClampNeg) (xs (i + (3 : Int32)).toNatClampNeg)) (vx_cwSW 5 ht (G_S q_1173 q_1174 q_45 q_1175) rfl rfl rfl vd_67 ⟨Nat.le_of_ble_eq_true rfl, Nat.le_of_ble_eq_true rfl⟩) ⟨LB.blind, hg.lb hI hw⟩ rfl rfl hl.1 rfl (lv_room (Nat.le_of_ble_eq_true rfl)) dL_law_1208 ⟨show cv + 4 ≤ 600128 by omega, show sv + 24 ≤ 7301098 by omega⟩) (fun r1 μ1 nv1 sw1 H locs hq1 hw => ?_)
  have hK1 := hq1.1.trans hK0
  have hG1 := hq1.2 hG
  refine lv_istore (lv' := [(5, .int r1), (0, .ref b), (1, .ref (ad 0)), (2, .ref (bd 0)), (3, .ref q), (4, .int i)]) hx hb dL_law_1211 hl (by decide) rfl (fun ls hl => ?_)
  refine lv_aload_n hx hb dL_law_1213 rfl (lv_at hl 3 rfl) ?_
  refine lv_aload_n hx hb dL_law_1214 rfl (lv_at hl 1 rfl) ?_
  refine lv_iload hx hb dL_law_1215 (lv_at hl 5 rfl) ?_
  refine lv_iconst (v := (1 : Int32)) hx hb dL_law_1217 (by decide) ?_
  refine lv_iadd hx hb dL_law_1218 ?_
  refine va_sld hx hb hXs hbl hbA hw.2.2.1 (i := (i + (1 : Int32))) hv1 dL_law_1219 ?_
  refine lv_aload_n hx hb dL_law_1220 rfl (lv_at hl 1 rfl) ?_
  refine lv_iload hx hb dL_law_1221 (lv_at hl 5 rfl) ?_
  refine lv_iconst (v := (2 : Int32)) hx hb dL_law_1223 (by decide) ?_
  refine lv_iadd hx hb dL_law_1224 ?_
  refine va_sld hx hb hXs hbl hbA hw.2.2.1 (i := (i + (2 : Int32))) hv2 dL_law_1225 ?_
  refine lv_aload_n hx hb dL_law_1226 rfl (lv_at hl 1 rfl) ?_
  refine lv_iload hx hb dL_law_1227 (lv_at hl 5 rfl) ?_
  refine lv_iconst (v := (3 : Int32)) hx hb dL_law_1229 (by decide) ?_
  refine lv_iadd hx hb dL_law_1230 ?_
  refine va_sld hx hb hXs hbl hbA hw.2.2.1 (i := (i + (3 : Int32))) hv3 dL_law_1231 ?_
  refine M_calli hw (LZ_MA hw) (va_runV (own := "LeastreaderLaw") (As := [.int (xs (i + (1 : Int32)).toNatClampNeg), .int (xs (i + (2 : Int32)).toNatClampNeg), .int (xs (i + (3 : Int32)).toNatClampNeg)]) (rest := []) ⟨hx, hb, hml, hown, ht⟩ (c_X11_many ν H.size (xs (i + (1 : Int32)).toNatClampNeg) (xs (i + (2 : Int32)).toNatClampNeg) (xs (i + (3 : Int32)).toNatClampNeg) (t_many hR (Qm := fun _ ν9 => FQ ν ν9) (fun r ν9 f => f))) (cwV 3 ht (G_V q_1548 q_1549 q_1550 q_56 q_1551) rfl rfl rfl ⟨rfl, vd_68⟩ ⟨Nat.le_of_ble_eq_true rfl, Nat.le_of_ble_eq_true rfl⟩) ⟨MB.blind, M_recv hg.2.1 hw, MB.pre hg.2.1 hJ hw va_P0 ne0⟩ rfl rfl hl.1 rfl (lv_room (Nat.le_of_ble_eq_true rfl)) dL_law_1232 ⟨show cv + 4 + 42 ≤ 600128 by omega, show sv + 24 + 2101 ≤ 7301098 by omega⟩) (fun r2 ν2 H locs hf2 hw => ?_)
  have hK2b := hK1.trans hf2.2.symm
  refine lv_istore (lv' := [(6, .int r2), (5, .int r1), (0, .ref b), (1, .ref (ad 0)), (2, .ref (bd 0)), (3, .ref q), (4, .int i)]) hx hb dL_law_1235 hl (by decide) rfl (fun ls hl => ?_)
  refine lv_goto (tgt := 1543) hx hb dL_law_1237 (by decide) ?_
  refine W.widen (show cv + 4 + 42 ≤ cv + 2000 by omega) (show sv + 24 + 2101 ≤ sv + 112000 by omega) ?_
  exact hJ3 μ1 ν2 nv1 sw1 H locs ls hK2b hG1 hf2.1 hw (lv_sub hl [2, 3, 4, 5, 6] rfl)
set_option maxHeartbeats 4000000 in
set_option maxRecDepth 100000 in
theorem law_21 {p : Program} {l : Launch} {e : Env} {s : State} {m : MethodId} {b : Nat} {below : List Frame} {meth : Method} {c : Code} {L : Nat} {xs : Nat → Int32} {D : va_G} {ad bd : Nat → Nat} {cI cL cM cB : ClassId} {q : Nat} {Z : State → Prop} {i : Int32} {cv sv : Nat} (C0 : LC p l s m b c L xs D ad bd cI cL cM cB) (hi : 0 ≤ i.toInt) (hiL : i.toInt + 6 ≤ L) (hcv : cv + 2000 ≤ 600128) (hsv : sv + 112000 ≤ 7301098) (hJ3 : LJ p l e s m b below meth c D ad bd cI cM q Z i (cv + 2000) (sv + 112000) 1543) : LJ p l e s m b below meth c D ad bd cI cM q Z i cv sv 1240 := by
  obtain ⟨hx, hb, hml, hown, ht, hg, hI, hJ, hXs, hbl, hst, hL⟩ := C0
  have hbA : ¬ SA s.heap.size b := Nat.not_le.mpr hbl
  intro μ ν nv sw H locs ls hK0 hG hR hw hl
  have hi1 : (i + (1 : Int32)).toInt = i.toInt + 1 := ii_a rfl (show (1 : Int32).toInt = 1 from rfl) (by omega) (by omega)
  have hi2 : (i + (2 : Int32)).toInt = i.toInt + 2 := ii_a rfl (show (2 : Int32).toInt = 2 from rfl) (by omega) (by omega)
  have hi3 : (i + (3 : Int32)).toInt = i.toInt + 3 := ii_a rfl (show (3 : Int32).toInt = 3 from rfl) (by omega) (by omega)
  have hi4 : (i + (4 : Int32)).toInt = i.toInt + 4 := ii_a rfl (show (4 : Int32).toInt = 4 from rfl) (by omega) (by omega)
  have hi5 : (i + (5 : Int32)).toInt = i.toInt + 5 := ii_a rfl (show (5 : Int32).toInt = 5 from rfl) (by omega) (by omega)
  have hv0 : vp_in i L := vin (by omega)
  have hv1 : vp_in (i + (1 : Int32)) L := vin (by omega)
  have hv2 : vp_in (i + (2 : Int32)) L := vin (by omega)
  have hv3 : vp_in (i + (3 : Int32)) L := vin (by omega)
  have hv4 : vp_in (i + (4 : Int32)) L := vin (by omega)
  have hv5 : vp_in (i + (5 : Int32)) L := vin (by omega)
  refine lv_aload_n hx hb dL_law_1240 rfl (lv_at hl 1 rfl) ?_
  refine lv_aload_n hx hb dL_law_1241 rfl (lv_at hl 0 rfl) ?_
  refine lv_iload hx hb dL_law_1242 (lv_at hl 4 rfl) ?_
  refine lv_iconst (v := (1 : Int32)) hx hb dL_law_1244 (by decide) ?_
  refine lv_iadd hx hb dL_law_1245 ?_
  refine va_sld hx hb hXs hbl hbA hw.2.2.1 (i := (i + (1 : Int32))) hv1 dL_law_1246 ?_
  refine lv_aload_n hx hb dL_law_1247 rfl (lv_at hl 0 rfl) ?_
  refine lv_iload hx hb dL_law_1248 (lv_at hl 4 rfl) ?_
  refine lv_iconst (v := (2 : Int32)) hx hb dL_law_1250 (by decide) ?_
  refine lv_iadd hx hb dL_law_1251 ?_
  refine va_sld hx hb hXs hbl hbA hw.2.2.1 (i := (i + (2 : Int32))) hv2 dL_law_1252 ?_
  refine lv_aload_n hx hb dL_law_1253 rfl (lv_at hl 3 rfl) ?_
  refine LL_call hw hI (vx_runSX (own := "LeastreaderLaw") (As := [.ref (ad 0), .int (xs (i + (1 : Int32)).toNatClampNeg), .int (xs (i + (2 : Int32)).toNatClampNeg), .ref q]) (rest := []) ⟨hx, hb, hml, hown, ht⟩ (c_L_word hst q nv sw μ H.size (xs (i + (1 : Int32)).toNatClampNeg) (xs (i + (2 : Int32)).toNatClampNeg)) (vx_cwSW 4 ht (G_S q_1203 q_1204 q_45 q_1205) rfl rfl rfl vd_69 ⟨Nat.le_of_ble_eq_true rfl, Nat.le_of_ble_eq_true rfl⟩) ⟨LB.blind, hg.lb hI hw⟩ rfl rfl hl.1 rfl (lv_room (Nat.le_of_ble_eq_true rfl)) dL_law_1254 ⟨show cv + 504 ≤ 600128 by omega, show sv + 20019 ≤ 7301098 by omega⟩) (fun r1 μ1 nv1 sw1 H locs hq1 hw => ?_)
  have hK1 := hq1.1.trans hK0
  have hG1 := hq1.2 hG
  refine lv_istore (lv' := [(5, .int r1), (0, .ref b), (1, .ref (ad 0)), (2, .ref (bd 0)), (3, .ref q), (4, .int i)]) hx hb dL_law_1257 hl (by decide) rfl (fun ls hl => ?_)
  refine lv_aload_n hx hb dL_law_1259 rfl (lv_at hl 3 rfl) ?_
  refine lv_aload_n hx hb dL_law_1260 rfl (lv_at hl 1 rfl) ?_
  refine lv_iload hx hb dL_law_1261 (lv_at hl 5 rfl) ?_
  refine lv_iconst (v := (1 : Int32)) hx hb dL_law_1263 (by decide) ?_
  refine lv_iadd hx hb dL_law_1264 ?_
  refine va_sld hx hb hXs hbl hbA hw.2.2.1 (i := (i + (1 : Int32))) hv1 dL_law_1265 ?_
  refine lv_aload_n hx hb dL_law_1266 rfl (lv_at hl 1 rfl) ?_
  refine lv_iload hx hb dL_law_1267 (lv_at hl 5 rfl) ?_
  refine lv_iconst (v := (2 : Int32)) hx hb dL_law_1269 (by decide) ?_
  refine lv_iadd hx hb dL_law_1270 ?_
  refine va_sld hx hb hXs hbl hbA hw.2.2.1 (i := (i + (2 : Int32))) hv2 dL_law_1271 ?_
  refine MS_callr hw (va_runV (own := "LeastreaderLaw") (As := [.int (xs (i + (1 : Int32)).toNatClampNeg), .int (xs (i + (2 : Int32)).toNatClampNeg)]) (rest := []) ⟨hx, hb, hml, hown, ht⟩ (c_X11_word ν H.size (xs (i + (1 : Int32)).toNatClampNeg) (xs (i + (2 : Int32)).toNatClampNeg) hR) (cwV 2 ht (G_V q_1555 q_1556 q_1557 q_56 q_1558) rfl rfl rfl ⟨rfl, vd_70⟩ ⟨Nat.le_of_ble_eq_true rfl, Nat.le_of_ble_eq_true rfl⟩) ⟨MBS.blind, M_recv hg.2.1 hw, hg.pS hJ hw⟩ rfl rfl hl.1 rfl (lv_room (Nat.le_of_ble_eq_true rfl)) dL_law_1272 ⟨show cv + 504 + 500 ≤ 600128 by omega, show sv + 20019 + 20000 ≤ 7301098 by omega⟩) (fun r2 ν2 H locs hf2 hw => ?_)
  have hK2b := hK1.trans hf2.2.symm
  refine lv_astore (lv' := [(6, .ref r2), (5, .int r1), (0, .ref b), (1, .ref (ad 0)), (2, .ref (bd 0)), (3, .ref q), (4, .int i)]) hx hb dL_law_1275 hl (by decide) rfl (fun ls hl => ?_)
  refine lv_goto (tgt := 1543) hx hb dL_law_1277 (by decide) ?_
  refine W.widen (show cv + 504 + 500 ≤ cv + 2000 by omega) (show sv + 20019 + 20000 ≤ sv + 112000 by omega) ?_
  exact hJ3 μ1 ν2 nv1 sw1 H locs ls hK2b hG1 hf2.1 hw (lv_sub hl [2, 3, 4, 5, 6] rfl)
set_option maxHeartbeats 4000000 in
set_option maxRecDepth 100000 in
theorem law_22 {p : Program} {l : Launch} {e : Env} {s : State} {m : MethodId} {b : Nat} {below : List Frame} {meth : Method} {c : Code} {L : Nat} {xs : Nat → Int32} {D : va_G} {ad bd : Nat → Nat} {cI cL cM cB : ClassId} {q : Nat} {Z : State → Prop} {i : Int32} {cv sv : Nat} (C0 : LC p l s m b c L xs D ad bd cI cL cM cB) (hi : 0 ≤ i.toInt) (hiL : i.toInt + 6 ≤ L) (hcv : cv + 2000 ≤ 600128) (hsv : sv + 112000 ≤ 7301098) (hJ3 : LJ p l e s m b below meth c D ad bd cI cM q Z i (cv + 2000) (sv + 112000) 1543) : LJ p l e s m b below meth c D ad bd cI cM q Z i cv sv 1280 := by
  obtain ⟨hx, hb, hml, hown, ht, hg, hI, hJ, hXs, hbl, hst, hL⟩ := C0
  have hbA : ¬ SA s.heap.size b := Nat.not_le.mpr hbl
  intro μ ν nv sw H locs ls hK0 hG hR hw hl
  have hi1 : (i + (1 : Int32)).toInt = i.toInt + 1 := ii_a rfl (show (1 : Int32).toInt = 1 from rfl) (by omega) (by omega)
  have hi2 : (i + (2 : Int32)).toInt = i.toInt + 2 := ii_a rfl (show (2 : Int32).toInt = 2 from rfl) (by omega) (by omega)
  have hi3 : (i + (3 : Int32)).toInt = i.toInt + 3 := ii_a rfl (show (3 : Int32).toInt = 3 from rfl) (by omega) (by omega)
  have hi4 : (i + (4 : Int32)).toInt = i.toInt + 4 := ii_a rfl (show (4 : Int32).toInt = 4 from rfl) (by omega) (by omega)
  have hi5 : (i + (5 : Int32)).toInt = i.toInt + 5 := ii_a rfl (show (5 : Int32).toInt = 5 from rfl) (by omega) (by omega)
  have hv0 : vp_in i L := vin (by omega)
  have hv1 : vp_in (i + (1 : Int32)) L := vin (by omega)
  have hv2 : vp_in (i + (2 : Int32)) L := vin (by omega)
  have hv3 : vp_in (i + (3 : Int32)) L := vin (by omega)
  have hv4 : vp_in (i + (4 : Int32)) L := vin (by omega)
  have hv5 : vp_in (i + (5 : Int32)) L := vin (by omega)
  refine lv_aload_n hx hb dL_law_1280 rfl (lv_at hl 1 rfl) ?_
  refine lv_aload_n hx hb dL_law_1281 rfl (lv_at hl 0 rfl) ?_
  refine lv_iload hx hb dL_law_1282 (lv_at hl 4 rfl) ?_
  refine lv_iconst (v := (1 : Int32)) hx hb dL_law_1284 (by decide) ?_
  refine lv_iadd hx hb dL_law_1285 ?_
  refine va_sld hx hb hXs hbl hbA hw.2.2.1 (i := (i + (1 : Int32))) hv1 dL_law_1286 ?_
  refine lv_aload_n hx hb dL_law_1287 rfl (lv_at hl 0 rfl) ?_
  refine lv_iload hx hb dL_law_1288 (lv_at hl 4 rfl) ?_
  refine lv_iconst (v := (2 : Int32)) hx hb dL_law_1290 (by decide) ?_
  refine lv_iadd hx hb dL_law_1291 ?_
  refine va_sld hx hb hXs hbl hbA hw.2.2.1 (i := (i + (2 : Int32))) hv2 dL_law_1292 ?_
  refine lv_aload_n hx hb dL_law_1293 rfl (lv_at hl 0 rfl) ?_
  refine lv_iload hx hb dL_law_1294 (lv_at hl 4 rfl) ?_
  refine lv_iconst (v := (3 : Int32)) hx hb dL_law_1296 (by decide) ?_
  refine lv_iadd hx hb dL_law_1297 ?_
  refine va_sld hx hb hXs hbl hbA hw.2.2.1 (i := (i + (3 : Int32))) hv3 dL_law_1298 ?_
  refine lv_aload_n hx hb dL_law_1299 rfl (lv_at hl 3 rfl) ?_
  refine LL_call hw hI (vx_runSX (own := "LeastreaderLaw") (As := [.ref (ad 0), .int (xs (i + (1 : Int32)).toNatClampNeg), .int (xs (i + (2 : Int32)).toNatClampNeg), .int (xs (i + (3 : Int32)).toNatClampNeg), .ref q]) (rest := []) ⟨hx, hb, hml, hown, ht⟩ (c_L_isAlike hst q nv sw μ H.size (xs (i + (1 : Int32)).toNatClampNeg) (xs (i + (2 : Int32)).toNatClampNeg) (xs (i + (3 : Int32)).toNatClampNeg)) (vx_cwSW 5 ht (G_S q_1227 q_1228 q_45 q_1229) rfl rfl rfl vd_71 ⟨Nat.le_of_ble_eq_true rfl, Nat.le_of_ble_eq_true rfl⟩) ⟨LB.blind, hg.lb hI hw⟩ rfl rfl hl.1 rfl (lv_room (Nat.le_of_ble_eq_true rfl)) dL_law_1300 ⟨show cv + 6 ≤ 600128 by omega, show sv + 36 ≤ 7301098 by omega⟩) (fun r1 μ1 nv1 sw1 H locs hq1 hw => ?_)
  have hK1 := hq1.1.trans hK0
  have hG1 := hq1.2 hG
  refine lv_istore (lv' := [(5, .int r1), (0, .ref b), (1, .ref (ad 0)), (2, .ref (bd 0)), (3, .ref q), (4, .int i)]) hx hb dL_law_1303 hl (by decide) rfl (fun ls hl => ?_)
  refine lv_aload_n hx hb dL_law_1305 rfl (lv_at hl 3 rfl) ?_
  refine lv_aload_n hx hb dL_law_1306 rfl (lv_at hl 1 rfl) ?_
  refine lv_iload hx hb dL_law_1307 (lv_at hl 5 rfl) ?_
  refine lv_iconst (v := (1 : Int32)) hx hb dL_law_1309 (by decide) ?_
  refine lv_iadd hx hb dL_law_1310 ?_
  refine va_sld hx hb hXs hbl hbA hw.2.2.1 (i := (i + (1 : Int32))) hv1 dL_law_1311 ?_
  refine lv_aload_n hx hb dL_law_1312 rfl (lv_at hl 1 rfl) ?_
  refine lv_iload hx hb dL_law_1313 (lv_at hl 5 rfl) ?_
  refine lv_iconst (v := (2 : Int32)) hx hb dL_law_1315 (by decide) ?_
  refine lv_iadd hx hb dL_law_1316 ?_
  refine va_sld hx hb hXs hbl hbA hw.2.2.1 (i := (i + (2 : Int32))) hv2 dL_law_1317 ?_
  refine lv_aload_n hx hb dL_law_1318 rfl (lv_at hl 1 rfl) ?_
  refine lv_iload hx hb dL_law_1319 (lv_at hl 5 rfl) ?_
  refine lv_iconst (v := (3 : Int32)) hx hb dL_law_1321 (by decide) ?_
  refine lv_iadd hx hb dL_law_1322 ?_
  refine va_sld hx hb hXs hbl hbA hw.2.2.1 (i := (i + (3 : Int32))) hv3 dL_law_1323 ?_
  refine M_calli hw (LZ_MA hw) (va_runV (own := "LeastreaderLaw") (As := [.int (xs (i + (1 : Int32)).toNatClampNeg), .int (xs (i + (2 : Int32)).toNatClampNeg), .int (xs (i + (3 : Int32)).toNatClampNeg)]) (rest := []) ⟨hx, hb, hml, hown, ht⟩ (c_X11_isAlike ν H.size (xs (i + (1 : Int32)).toNatClampNeg) (xs (i + (2 : Int32)).toNatClampNeg) (xs (i + (3 : Int32)).toNatClampNeg) (t_isAlike hR (Qm := fun _ ν9 => FQ ν ν9) (fun r ν9 f => f))) (cwV 3 ht (G_V q_1559 q_1560 q_1561 q_56 q_1562) rfl rfl rfl ⟨rfl, vd_72⟩ ⟨Nat.le_of_ble_eq_true rfl, Nat.le_of_ble_eq_true rfl⟩) ⟨MB.blind, M_recv hg.2.1 hw, MB.pre hg.2.1 hJ hw va_P0 ne0⟩ rfl rfl hl.1 rfl (lv_room (Nat.le_of_ble_eq_true rfl)) dL_law_1324 ⟨show cv + 6 + 82 ≤ 600128 by omega, show sv + 36 + 3370 ≤ 7301098 by omega⟩) (fun r2 ν2 H locs hf2 hw => ?_)
  have hK2b := hK1.trans hf2.2.symm
  refine lv_istore (lv' := [(6, .int r2), (5, .int r1), (0, .ref b), (1, .ref (ad 0)), (2, .ref (bd 0)), (3, .ref q), (4, .int i)]) hx hb dL_law_1327 hl (by decide) rfl (fun ls hl => ?_)
  refine lv_goto (tgt := 1543) hx hb dL_law_1329 (by decide) ?_
  refine W.widen (show cv + 6 + 82 ≤ cv + 2000 by omega) (show sv + 36 + 3370 ≤ sv + 112000 by omega) ?_
  exact hJ3 μ1 ν2 nv1 sw1 H locs ls hK2b hG1 hf2.1 hw (lv_sub hl [2, 3, 4, 5, 6] rfl)
set_option maxHeartbeats 4000000 in
set_option maxRecDepth 100000 in
theorem law_23 {p : Program} {l : Launch} {e : Env} {s : State} {m : MethodId} {b : Nat} {below : List Frame} {meth : Method} {c : Code} {L : Nat} {xs : Nat → Int32} {D : va_G} {ad bd : Nat → Nat} {cI cL cM cB : ClassId} {q : Nat} {Z : State → Prop} {i : Int32} {cv sv : Nat} (C0 : LC p l s m b c L xs D ad bd cI cL cM cB) (hi : 0 ≤ i.toInt) (hiL : i.toInt + 6 ≤ L) (hcv : cv + 2000 ≤ 600128) (hsv : sv + 112000 ≤ 7301098) (hJ3 : LJ p l e s m b below meth c D ad bd cI cM q Z i (cv + 2000) (sv + 112000) 1543) : LJ p l e s m b below meth c D ad bd cI cM q Z i cv sv 1332 := by
  obtain ⟨hx, hb, hml, hown, ht, hg, hI, hJ, hXs, hbl, hst, hL⟩ := C0
  have hbA : ¬ SA s.heap.size b := Nat.not_le.mpr hbl
  intro μ ν nv sw H locs ls hK0 hG hR hw hl
  have hi1 : (i + (1 : Int32)).toInt = i.toInt + 1 := ii_a rfl (show (1 : Int32).toInt = 1 from rfl) (by omega) (by omega)
  have hi2 : (i + (2 : Int32)).toInt = i.toInt + 2 := ii_a rfl (show (2 : Int32).toInt = 2 from rfl) (by omega) (by omega)
  have hi3 : (i + (3 : Int32)).toInt = i.toInt + 3 := ii_a rfl (show (3 : Int32).toInt = 3 from rfl) (by omega) (by omega)
  have hi4 : (i + (4 : Int32)).toInt = i.toInt + 4 := ii_a rfl (show (4 : Int32).toInt = 4 from rfl) (by omega) (by omega)
  have hi5 : (i + (5 : Int32)).toInt = i.toInt + 5 := ii_a rfl (show (5 : Int32).toInt = 5 from rfl) (by omega) (by omega)
  have hv0 : vp_in i L := vin (by omega)
  have hv1 : vp_in (i + (1 : Int32)) L := vin (by omega)
  have hv2 : vp_in (i + (2 : Int32)) L := vin (by omega)
  have hv3 : vp_in (i + (3 : Int32)) L := vin (by omega)
  have hv4 : vp_in (i + (4 : Int32)) L := vin (by omega)
  have hv5 : vp_in (i + (5 : Int32)) L := vin (by omega)
  refine lv_aload_n hx hb dL_law_1332 rfl (lv_at hl 1 rfl) ?_
  refine lv_aload_n hx hb dL_law_1333 rfl (lv_at hl 0 rfl) ?_
  refine lv_iload hx hb dL_law_1334 (lv_at hl 4 rfl) ?_
  refine lv_iconst (v := (1 : Int32)) hx hb dL_law_1336 (by decide) ?_
  refine lv_iadd hx hb dL_law_1337 ?_
  refine va_sld hx hb hXs hbl hbA hw.2.2.1 (i := (i + (1 : Int32))) hv1 dL_law_1338 ?_
  refine lv_aload_n hx hb dL_law_1339 rfl (lv_at hl 0 rfl) ?_
  refine lv_iload hx hb dL_law_1340 (lv_at hl 4 rfl) ?_
  refine lv_iconst (v := (2 : Int32)) hx hb dL_law_1342 (by decide) ?_
  refine lv_iadd hx hb dL_law_1343 ?_
  refine va_sld hx hb hXs hbl hbA hw.2.2.1 (i := (i + (2 : Int32))) hv2 dL_law_1344 ?_
  refine lv_aload_n hx hb dL_law_1345 rfl (lv_at hl 3 rfl) ?_
  refine LL_call hw hI (vx_runSX (own := "LeastreaderLaw") (As := [.ref (ad 0), .int (xs (i + (1 : Int32)).toNatClampNeg), .int (xs (i + (2 : Int32)).toNatClampNeg), .ref q]) (rest := []) ⟨hx, hb, hml, hown, ht⟩ (c_L_apart hst q nv sw μ H.size (xs (i + (1 : Int32)).toNatClampNeg) (xs (i + (2 : Int32)).toNatClampNeg) hG) (vx_cwSW 4 ht (G_S q_1238 q_1239 q_45 q_1240) rfl rfl rfl vd_73 ⟨Nat.le_of_ble_eq_true rfl, Nat.le_of_ble_eq_true rfl⟩) ⟨LB.blind, hg.lb hI hw⟩ rfl rfl hl.1 rfl (lv_room (Nat.le_of_ble_eq_true rfl)) dL_law_1346 ⟨show cv + 503 ≤ 600128 by omega, show sv + 20018 ≤ 7301098 by omega⟩) (fun r1 μ1 nv1 sw1 H locs hq1 hw => ?_)
  have hK1 := hq1.1.trans hK0
  have hG1 := hq1.2 hG
  refine lv_istore (lv' := [(5, .int r1), (0, .ref b), (1, .ref (ad 0)), (2, .ref (bd 0)), (3, .ref q), (4, .int i)]) hx hb dL_law_1349 hl (by decide) rfl (fun ls hl => ?_)
  refine lv_aload_n hx hb dL_law_1351 rfl (lv_at hl 3 rfl) ?_
  refine lv_aload_n hx hb dL_law_1352 rfl (lv_at hl 1 rfl) ?_
  refine lv_iload hx hb dL_law_1353 (lv_at hl 5 rfl) ?_
  refine lv_iconst (v := (1 : Int32)) hx hb dL_law_1355 (by decide) ?_
  refine lv_iadd hx hb dL_law_1356 ?_
  refine va_sld hx hb hXs hbl hbA hw.2.2.1 (i := (i + (1 : Int32))) hv1 dL_law_1357 ?_
  refine lv_aload_n hx hb dL_law_1358 rfl (lv_at hl 1 rfl) ?_
  refine lv_iload hx hb dL_law_1359 (lv_at hl 5 rfl) ?_
  refine lv_iconst (v := (2 : Int32)) hx hb dL_law_1361 (by decide) ?_
  refine lv_iadd hx hb dL_law_1362 ?_
  refine va_sld hx hb hXs hbl hbA hw.2.2.1 (i := (i + (2 : Int32))) hv2 dL_law_1363 ?_
  refine MS_callr hw (va_runV (own := "LeastreaderLaw") (As := [.int (xs (i + (1 : Int32)).toNatClampNeg), .int (xs (i + (2 : Int32)).toNatClampNeg)]) (rest := []) ⟨hx, hb, hml, hown, ht⟩ (c_X11_apart ν H.size (xs (i + (1 : Int32)).toNatClampNeg) (xs (i + (2 : Int32)).toNatClampNeg) hR) (cwV 2 ht (G_V q_1571 q_1572 q_1573 q_56 q_1574) rfl rfl rfl ⟨rfl, vd_74⟩ ⟨Nat.le_of_ble_eq_true rfl, Nat.le_of_ble_eq_true rfl⟩) ⟨MBS.blind, M_recv hg.2.1 hw, hg.pS hJ hw⟩ rfl rfl hl.1 rfl (lv_room (Nat.le_of_ble_eq_true rfl)) dL_law_1364 ⟨show cv + 503 + 1400 ≤ 600128 by omega, show sv + 20018 + 91500 ≤ 7301098 by omega⟩) (fun r2 ν2 H locs hf2 hw => ?_)
  have hK2b := hK1.trans hf2.2.symm
  refine lv_astore (lv' := [(6, .ref r2), (5, .int r1), (0, .ref b), (1, .ref (ad 0)), (2, .ref (bd 0)), (3, .ref q), (4, .int i)]) hx hb dL_law_1367 hl (by decide) rfl (fun ls hl => ?_)
  refine lv_goto (tgt := 1543) hx hb dL_law_1369 (by decide) ?_
  refine W.widen (show cv + 503 + 1400 ≤ cv + 2000 by omega) (show sv + 20018 + 91500 ≤ sv + 112000 by omega) ?_
  exact hJ3 μ1 ν2 nv1 sw1 H locs ls hK2b hG1 hf2.1 hw (lv_sub hl [2, 3, 4, 5, 6] rfl)
set_option maxHeartbeats 4000000 in
set_option maxRecDepth 100000 in
theorem law_24 {p : Program} {l : Launch} {e : Env} {s : State} {m : MethodId} {b : Nat} {below : List Frame} {meth : Method} {c : Code} {L : Nat} {xs : Nat → Int32} {D : va_G} {ad bd : Nat → Nat} {cI cL cM cB : ClassId} {q : Nat} {Z : State → Prop} {i : Int32} {cv sv : Nat} (C0 : LC p l s m b c L xs D ad bd cI cL cM cB) (hi : 0 ≤ i.toInt) (hiL : i.toInt + 6 ≤ L) (hcv : cv + 2000 ≤ 600128) (hsv : sv + 112000 ≤ 7301098) (hJ3 : LJ p l e s m b below meth c D ad bd cI cM q Z i (cv + 2000) (sv + 112000) 1543) : LJ p l e s m b below meth c D ad bd cI cM q Z i cv sv 1372 := by
  obtain ⟨hx, hb, hml, hown, ht, hg, hI, hJ, hXs, hbl, hst, hL⟩ := C0
  have hbA : ¬ SA s.heap.size b := Nat.not_le.mpr hbl
  intro μ ν nv sw H locs ls hK0 hG hR hw hl
  have hi1 : (i + (1 : Int32)).toInt = i.toInt + 1 := ii_a rfl (show (1 : Int32).toInt = 1 from rfl) (by omega) (by omega)
  have hi2 : (i + (2 : Int32)).toInt = i.toInt + 2 := ii_a rfl (show (2 : Int32).toInt = 2 from rfl) (by omega) (by omega)
  have hi3 : (i + (3 : Int32)).toInt = i.toInt + 3 := ii_a rfl (show (3 : Int32).toInt = 3 from rfl) (by omega) (by omega)
  have hi4 : (i + (4 : Int32)).toInt = i.toInt + 4 := ii_a rfl (show (4 : Int32).toInt = 4 from rfl) (by omega) (by omega)
  have hi5 : (i + (5 : Int32)).toInt = i.toInt + 5 := ii_a rfl (show (5 : Int32).toInt = 5 from rfl) (by omega) (by omega)
  have hv0 : vp_in i L := vin (by omega)
  have hv1 : vp_in (i + (1 : Int32)) L := vin (by omega)
  have hv2 : vp_in (i + (2 : Int32)) L := vin (by omega)
  have hv3 : vp_in (i + (3 : Int32)) L := vin (by omega)
  have hv4 : vp_in (i + (4 : Int32)) L := vin (by omega)
  have hv5 : vp_in (i + (5 : Int32)) L := vin (by omega)
  refine lv_aload_n hx hb dL_law_1372 rfl (lv_at hl 1 rfl) ?_
  refine lv_aload_n hx hb dL_law_1373 rfl (lv_at hl 0 rfl) ?_
  refine lv_iload hx hb dL_law_1374 (lv_at hl 4 rfl) ?_
  refine lv_iconst (v := (1 : Int32)) hx hb dL_law_1376 (by decide) ?_
  refine lv_iadd hx hb dL_law_1377 ?_
  refine va_sld hx hb hXs hbl hbA hw.2.2.1 (i := (i + (1 : Int32))) hv1 dL_law_1378 ?_
  refine lv_aload_n hx hb dL_law_1379 rfl (lv_at hl 0 rfl) ?_
  refine lv_iload hx hb dL_law_1380 (lv_at hl 4 rfl) ?_
  refine lv_iconst (v := (2 : Int32)) hx hb dL_law_1382 (by decide) ?_
  refine lv_iadd hx hb dL_law_1383 ?_
  refine va_sld hx hb hXs hbl hbA hw.2.2.1 (i := (i + (2 : Int32))) hv2 dL_law_1384 ?_
  refine lv_aload_n hx hb dL_law_1385 rfl (lv_at hl 3 rfl) ?_
  refine LL_call hw hI (vx_runSX (own := "LeastreaderLaw") (As := [.ref (ad 0), .int (xs (i + (1 : Int32)).toNatClampNeg), .int (xs (i + (2 : Int32)).toNatClampNeg), .ref q]) (rest := []) ⟨hx, hb, hml, hown, ht⟩ (c_L_pairs hst q nv sw μ H.size (xs (i + (1 : Int32)).toNatClampNeg) (xs (i + (2 : Int32)).toNatClampNeg)) (vx_cwSW 4 ht (G_S q_1286 q_1287 q_45 q_1288) rfl rfl rfl vd_75 ⟨Nat.le_of_ble_eq_true rfl, Nat.le_of_ble_eq_true rfl⟩) ⟨LB.blind, hg.lb hI hw⟩ rfl rfl hl.1 rfl (lv_room (Nat.le_of_ble_eq_true rfl)) dL_law_1386 ⟨show cv + 3 ≤ 600128 by omega, show sv + 18 ≤ 7301098 by omega⟩) (fun r1 μ1 nv1 sw1 H locs hq1 hw => ?_)
  have hK1 := hq1.1.trans hK0
  have hG1 := hq1.2 hG
  refine lv_istore (lv' := [(5, .int r1), (0, .ref b), (1, .ref (ad 0)), (2, .ref (bd 0)), (3, .ref q), (4, .int i)]) hx hb dL_law_1389 hl (by decide) rfl (fun ls hl => ?_)
  refine lv_aload_n hx hb dL_law_1391 rfl (lv_at hl 3 rfl) ?_
  refine lv_aload_n hx hb dL_law_1392 rfl (lv_at hl 1 rfl) ?_
  refine lv_iload hx hb dL_law_1393 (lv_at hl 5 rfl) ?_
  refine lv_iconst (v := (1 : Int32)) hx hb dL_law_1395 (by decide) ?_
  refine lv_iadd hx hb dL_law_1396 ?_
  refine va_sld hx hb hXs hbl hbA hw.2.2.1 (i := (i + (1 : Int32))) hv1 dL_law_1397 ?_
  refine lv_aload_n hx hb dL_law_1398 rfl (lv_at hl 1 rfl) ?_
  refine lv_iload hx hb dL_law_1399 (lv_at hl 5 rfl) ?_
  refine lv_iconst (v := (2 : Int32)) hx hb dL_law_1401 (by decide) ?_
  refine lv_iadd hx hb dL_law_1402 ?_
  refine va_sld hx hb hXs hbl hbA hw.2.2.1 (i := (i + (2 : Int32))) hv2 dL_law_1403 ?_
  refine M_calli hw (LZ_MA hw) (va_runV (own := "LeastreaderLaw") (As := [.int (xs (i + (1 : Int32)).toNatClampNeg), .int (xs (i + (2 : Int32)).toNatClampNeg)]) (rest := []) ⟨hx, hb, hml, hown, ht⟩ (c_X11_pairs ν H.size (xs (i + (1 : Int32)).toNatClampNeg) (xs (i + (2 : Int32)).toNatClampNeg) (t_pairs hR (Qm := fun _ ν9 => FQ ν ν9) (fun r ν9 f => f))) (cwV 2 ht (G_V q_1576 q_1577 q_1578 q_56 q_1579) rfl rfl rfl ⟨rfl, vd_76⟩ ⟨Nat.le_of_ble_eq_true rfl, Nat.le_of_ble_eq_true rfl⟩) ⟨MB.blind, M_recv hg.2.1 hw, MB.pre hg.2.1 hJ hw va_P0 ne0⟩ rfl rfl hl.1 rfl (lv_room (Nat.le_of_ble_eq_true rfl)) dL_law_1404 ⟨show cv + 3 + 9 ≤ 600128 by omega, show sv + 18 + 1222 ≤ 7301098 by omega⟩) (fun r2 ν2 H locs hf2 hw => ?_)
  have hK2b := hK1.trans hf2.2.symm
  refine lv_istore (lv' := [(6, .int r2), (5, .int r1), (0, .ref b), (1, .ref (ad 0)), (2, .ref (bd 0)), (3, .ref q), (4, .int i)]) hx hb dL_law_1407 hl (by decide) rfl (fun ls hl => ?_)
  refine lv_goto (tgt := 1543) hx hb dL_law_1409 (by decide) ?_
  refine W.widen (show cv + 3 + 9 ≤ cv + 2000 by omega) (show sv + 18 + 1222 ≤ sv + 112000 by omega) ?_
  exact hJ3 μ1 ν2 nv1 sw1 H locs ls hK2b hG1 hf2.1 hw (lv_sub hl [2, 3, 4, 5, 6] rfl)
set_option maxHeartbeats 4000000 in
set_option maxRecDepth 100000 in
theorem law_25 {p : Program} {l : Launch} {e : Env} {s : State} {m : MethodId} {b : Nat} {below : List Frame} {meth : Method} {c : Code} {L : Nat} {xs : Nat → Int32} {D : va_G} {ad bd : Nat → Nat} {cI cL cM cB : ClassId} {q : Nat} {Z : State → Prop} {i : Int32} {cv sv : Nat} (C0 : LC p l s m b c L xs D ad bd cI cL cM cB) (hi : 0 ≤ i.toInt) (hiL : i.toInt + 6 ≤ L) (hcv : cv + 2000 ≤ 600128) (hsv : sv + 112000 ≤ 7301098) (hJ3 : LJ p l e s m b below meth c D ad bd cI cM q Z i (cv + 2000) (sv + 112000) 1543) : LJ p l e s m b below meth c D ad bd cI cM q Z i cv sv 1412 := by
  obtain ⟨hx, hb, hml, hown, ht, hg, hI, hJ, hXs, hbl, hst, hL⟩ := C0
  have hbA : ¬ SA s.heap.size b := Nat.not_le.mpr hbl
  intro μ ν nv sw H locs ls hK0 hG hR hw hl
  have hi1 : (i + (1 : Int32)).toInt = i.toInt + 1 := ii_a rfl (show (1 : Int32).toInt = 1 from rfl) (by omega) (by omega)
  have hi2 : (i + (2 : Int32)).toInt = i.toInt + 2 := ii_a rfl (show (2 : Int32).toInt = 2 from rfl) (by omega) (by omega)
  have hi3 : (i + (3 : Int32)).toInt = i.toInt + 3 := ii_a rfl (show (3 : Int32).toInt = 3 from rfl) (by omega) (by omega)
  have hi4 : (i + (4 : Int32)).toInt = i.toInt + 4 := ii_a rfl (show (4 : Int32).toInt = 4 from rfl) (by omega) (by omega)
  have hi5 : (i + (5 : Int32)).toInt = i.toInt + 5 := ii_a rfl (show (5 : Int32).toInt = 5 from rfl) (by omega) (by omega)
  have hv0 : vp_in i L := vin (by omega)
  have hv1 : vp_in (i + (1 : Int32)) L := vin (by omega)
  have hv2 : vp_in (i + (2 : Int32)) L := vin (by omega)
  have hv3 : vp_in (i + (3 : Int32)) L := vin (by omega)
  have hv4 : vp_in (i + (4 : Int32)) L := vin (by omega)
  have hv5 : vp_in (i + (5 : Int32)) L := vin (by omega)
  refine lv_aload_n hx hb dL_law_1412 rfl (lv_at hl 1 rfl) ?_
  refine lv_aload_n hx hb dL_law_1413 rfl (lv_at hl 0 rfl) ?_
  refine lv_iload hx hb dL_law_1414 (lv_at hl 4 rfl) ?_
  refine lv_iconst (v := (1 : Int32)) hx hb dL_law_1416 (by decide) ?_
  refine lv_iadd hx hb dL_law_1417 ?_
  refine va_sld hx hb hXs hbl hbA hw.2.2.1 (i := (i + (1 : Int32))) hv1 dL_law_1418 ?_
  refine lv_aload_n hx hb dL_law_1419 rfl (lv_at hl 0 rfl) ?_
  refine lv_iload hx hb dL_law_1420 (lv_at hl 4 rfl) ?_
  refine lv_iconst (v := (2 : Int32)) hx hb dL_law_1422 (by decide) ?_
  refine lv_iadd hx hb dL_law_1423 ?_
  refine va_sld hx hb hXs hbl hbA hw.2.2.1 (i := (i + (2 : Int32))) hv2 dL_law_1424 ?_
  refine lv_aload_n hx hb dL_law_1425 rfl (lv_at hl 0 rfl) ?_
  refine lv_iload hx hb dL_law_1426 (lv_at hl 4 rfl) ?_
  refine lv_iconst (v := (3 : Int32)) hx hb dL_law_1428 (by decide) ?_
  refine lv_iadd hx hb dL_law_1429 ?_
  refine va_sld hx hb hXs hbl hbA hw.2.2.1 (i := (i + (3 : Int32))) hv3 dL_law_1430 ?_
  refine lv_aload_n hx hb dL_law_1431 rfl (lv_at hl 0 rfl) ?_
  refine lv_iload hx hb dL_law_1432 (lv_at hl 4 rfl) ?_
  refine lv_iconst (v := (4 : Int32)) hx hb dL_law_1434 (by decide) ?_
  refine lv_iadd hx hb dL_law_1435 ?_
  refine va_sld hx hb hXs hbl hbA hw.2.2.1 (i := (i + (4 : Int32))) hv4 dL_law_1436 ?_
  refine lv_aload_n hx hb dL_law_1437 rfl (lv_at hl 3 rfl) ?_
  refine LL_call hw hI (vx_runSX (own := "LeastreaderLaw") (As := [.ref (ad 0), .int (xs (i + (1 : Int32)).toNatClampNeg), .int (xs (i + (2 : Int32)).toNatClampNeg), .int (xs (i + (3 : Int32)).toNatClampNeg), .int (xs (i + (4 : Int32)).toNatClampNeg), .ref q]) (rest := []) ⟨hx, hb, hml, hown, ht⟩ (c_L_together hst q nv sw μ H.size (xs (i + (1 : Int32)).toNatClampNeg) (xs (i + (2 : Int32)).toNatClampNeg) (xs (i + (3 : Int32)).toNatClampNeg) (xs (i + (4 : Int32)).toNatClampNeg)) (vx_cwSW 6 ht (G_S q_1293 q_1294 q_45 q_1295) rfl rfl rfl vd_77 ⟨Nat.le_of_ble_eq_true rfl, Nat.le_of_ble_eq_true rfl⟩) ⟨LB.blind, hg.lb hI hw⟩ rfl rfl hl.1 rfl (lv_room (Nat.le_of_ble_eq_true rfl)) dL_law_1438 ⟨show cv + 5 ≤ 600128 by omega, show sv + 30 ≤ 7301098 by omega⟩) (fun r1 μ1 nv1 sw1 H locs hq1 hw => ?_)
  have hK1 := hq1.1.trans hK0
  have hG1 := hq1.2 hG
  refine lv_istore (lv' := [(5, .int r1), (0, .ref b), (1, .ref (ad 0)), (2, .ref (bd 0)), (3, .ref q), (4, .int i)]) hx hb dL_law_1441 hl (by decide) rfl (fun ls hl => ?_)
  refine lv_aload_n hx hb dL_law_1443 rfl (lv_at hl 3 rfl) ?_
  refine lv_aload_n hx hb dL_law_1444 rfl (lv_at hl 1 rfl) ?_
  refine lv_iload hx hb dL_law_1445 (lv_at hl 5 rfl) ?_
  refine lv_iconst (v := (1 : Int32)) hx hb dL_law_1447 (by decide) ?_
  refine lv_iadd hx hb dL_law_1448 ?_
  refine va_sld hx hb hXs hbl hbA hw.2.2.1 (i := (i + (1 : Int32))) hv1 dL_law_1449 ?_
  refine lv_aload_n hx hb dL_law_1450 rfl (lv_at hl 1 rfl) ?_
  refine lv_iload hx hb dL_law_1451 (lv_at hl 5 rfl) ?_
  refine lv_iconst (v := (2 : Int32)) hx hb dL_law_1453 (by decide) ?_
  refine lv_iadd hx hb dL_law_1454 ?_
  refine va_sld hx hb hXs hbl hbA hw.2.2.1 (i := (i + (2 : Int32))) hv2 dL_law_1455 ?_
  refine lv_aload_n hx hb dL_law_1456 rfl (lv_at hl 1 rfl) ?_
  refine lv_iload hx hb dL_law_1457 (lv_at hl 5 rfl) ?_
  refine lv_iconst (v := (3 : Int32)) hx hb dL_law_1459 (by decide) ?_
  refine lv_iadd hx hb dL_law_1460 ?_
  refine va_sld hx hb hXs hbl hbA hw.2.2.1 (i := (i + (3 : Int32))) hv3 dL_law_1461 ?_
  refine lv_aload_n hx hb dL_law_1462 rfl (lv_at hl 1 rfl) ?_
  refine lv_iload hx hb dL_law_1463 (lv_at hl 5 rfl) ?_
  refine lv_iconst (v := (4 : Int32)) hx hb dL_law_1465 (by decide) ?_
  refine lv_iadd hx hb dL_law_1466 ?_
  refine va_sld hx hb hXs hbl hbA hw.2.2.1 (i := (i + (4 : Int32))) hv4 dL_law_1467 ?_
  refine M_calli hw (LZ_MA hw) (va_runV (own := "LeastreaderLaw") (As := [.int (xs (i + (1 : Int32)).toNatClampNeg), .int (xs (i + (2 : Int32)).toNatClampNeg), .int (xs (i + (3 : Int32)).toNatClampNeg), .int (xs (i + (4 : Int32)).toNatClampNeg)]) (rest := []) ⟨hx, hb, hml, hown, ht⟩ (c_X11_together ν H.size (xs (i + (1 : Int32)).toNatClampNeg) (xs (i + (2 : Int32)).toNatClampNeg) (xs (i + (3 : Int32)).toNatClampNeg) (xs (i + (4 : Int32)).toNatClampNeg) (t_together hR (Qm := fun _ ν9 => FQ ν ν9) (fun r ν9 f => f))) (cwV 4 ht (G_V q_1580 q_1581 q_1582 q_56 q_1583) rfl rfl rfl ⟨rfl, vd_78⟩ ⟨Nat.le_of_ble_eq_true rfl, Nat.le_of_ble_eq_true rfl⟩) ⟨MB.blind, M_recv hg.2.1 hw, MB.pre hg.2.1 hJ hw va_P0 ne0⟩ rfl rfl hl.1 rfl (lv_room (Nat.le_of_ble_eq_true rfl)) dL_law_1468 ⟨show cv + 5 + 48 ≤ 600128 by omega, show sv + 30 + 3142 ≤ 7301098 by omega⟩) (fun r2 ν2 H locs hf2 hw => ?_)
  have hK2b := hK1.trans hf2.2.symm
  refine lv_istore (lv' := [(6, .int r2), (5, .int r1), (0, .ref b), (1, .ref (ad 0)), (2, .ref (bd 0)), (3, .ref q), (4, .int i)]) hx hb dL_law_1471 hl (by decide) rfl (fun ls hl => ?_)
  refine lv_goto (tgt := 1543) hx hb dL_law_1473 (by decide) ?_
  refine W.widen (show cv + 5 + 48 ≤ cv + 2000 by omega) (show sv + 30 + 3142 ≤ sv + 112000 by omega) ?_
  exact hJ3 μ1 ν2 nv1 sw1 H locs ls hK2b hG1 hf2.1 hw (lv_sub hl [2, 3, 4, 5, 6] rfl)
set_option maxHeartbeats 4000000 in
set_option maxRecDepth 100000 in
theorem law_26 {p : Program} {l : Launch} {e : Env} {s : State} {m : MethodId} {b : Nat} {below : List Frame} {meth : Method} {c : Code} {L : Nat} {xs : Nat → Int32} {D : va_G} {ad bd : Nat → Nat} {cI cL cM cB : ClassId} {q : Nat} {Z : State → Prop} {i : Int32} {cv sv : Nat} (C0 : LC p l s m b c L xs D ad bd cI cL cM cB) (hi : 0 ≤ i.toInt) (hiL : i.toInt + 6 ≤ L) (hcv : cv + 2000 ≤ 600128) (hsv : sv + 112000 ≤ 7301098) (hJ3 : LJ p l e s m b below meth c D ad bd cI cM q Z i (cv + 2000) (sv + 112000) 1543) : LJ p l e s m b below meth c D ad bd cI cM q Z i cv sv 1476 := by
  obtain ⟨hx, hb, hml, hown, ht, hg, hI, hJ, hXs, hbl, hst, hL⟩ := C0
  have hbA : ¬ SA s.heap.size b := Nat.not_le.mpr hbl
  intro μ ν nv sw H locs ls hK0 hG hR hw hl
  have hi1 : (i + (1 : Int32)).toInt = i.toInt + 1 := ii_a rfl (show (1 : Int32).toInt = 1 from rfl) (by omega) (by omega)
  have hi2 : (i + (2 : Int32)).toInt = i.toInt + 2 := ii_a rfl (show (2 : Int32).toInt = 2 from rfl) (by omega) (by omega)
  have hi3 : (i + (3 : Int32)).toInt = i.toInt + 3 := ii_a rfl (show (3 : Int32).toInt = 3 from rfl) (by omega) (by omega)
  have hi4 : (i + (4 : Int32)).toInt = i.toInt + 4 := ii_a rfl (show (4 : Int32).toInt = 4 from rfl) (by omega) (by omega)
  have hi5 : (i + (5 : Int32)).toInt = i.toInt + 5 := ii_a rfl (show (5 : Int32).toInt = 5 from rfl) (by omega) (by omega)
  have hv0 : vp_in i L := vin (by omega)
  have hv1 : vp_in (i + (1 : Int32)) L := vin (by omega)
  have hv2 : vp_in (i + (2 : Int32)) L := vin (by omega)
  have hv3 : vp_in (i + (3 : Int32)) L := vin (by omega)
  have hv4 : vp_in (i + (4 : Int32)) L := vin (by omega)
  have hv5 : vp_in (i + (5 : Int32)) L := vin (by omega)
  refine lv_aload_n hx hb dL_law_1476 rfl (lv_at hl 1 rfl) ?_
  refine lv_aload_n hx hb dL_law_1477 rfl (lv_at hl 0 rfl) ?_
  refine lv_iload hx hb dL_law_1478 (lv_at hl 4 rfl) ?_
  refine lv_iconst (v := (1 : Int32)) hx hb dL_law_1480 (by decide) ?_
  refine lv_iadd hx hb dL_law_1481 ?_
  refine va_sld hx hb hXs hbl hbA hw.2.2.1 (i := (i + (1 : Int32))) hv1 dL_law_1482 ?_
  refine lv_aload_n hx hb dL_law_1483 rfl (lv_at hl 3 rfl) ?_
  refine LL_call hw hI (vx_runSX (own := "LeastreaderLaw") (As := [.ref (ad 0), .int (xs (i + (1 : Int32)).toNatClampNeg), .ref q]) (rest := []) ⟨hx, hb, hml, hown, ht⟩ (c_L_house hst q nv sw μ H.size (xs (i + (1 : Int32)).toNatClampNeg)) (vx_cwSW 3 ht (G_S q_1300 q_1301 q_45 q_1302) rfl rfl rfl vd_79 ⟨Nat.le_of_ble_eq_true rfl, Nat.le_of_ble_eq_true rfl⟩) ⟨LB.blind, hg.lb hI hw⟩ rfl rfl hl.1 rfl (lv_room (Nat.le_of_ble_eq_true rfl)) dL_law_1484 ⟨show cv + 1 ≤ 600128 by omega, show sv + 6 ≤ 7301098 by omega⟩) (fun r1 μ1 nv1 sw1 H locs hq1 hw => ?_)
  have hK1 := hq1.1.trans hK0
  have hG1 := hq1.2 hG
  refine lv_istore (lv' := [(5, .int r1), (0, .ref b), (1, .ref (ad 0)), (2, .ref (bd 0)), (3, .ref q), (4, .int i)]) hx hb dL_law_1487 hl (by decide) rfl (fun ls hl => ?_)
  refine lv_aload_n hx hb dL_law_1489 rfl (lv_at hl 3 rfl) ?_
  refine lv_aload_n hx hb dL_law_1490 rfl (lv_at hl 1 rfl) ?_
  refine lv_iload hx hb dL_law_1491 (lv_at hl 5 rfl) ?_
  refine lv_iconst (v := (1 : Int32)) hx hb dL_law_1493 (by decide) ?_
  refine lv_iadd hx hb dL_law_1494 ?_
  refine va_sld hx hb hXs hbl hbA hw.2.2.1 (i := (i + (1 : Int32))) hv1 dL_law_1495 ?_
  refine M_calli hw (LZ_MA hw) (va_runV (own := "LeastreaderLaw") (As := [.int (xs (i + (1 : Int32)).toNatClampNeg)]) (rest := []) ⟨hx, hb, hml, hown, ht⟩ (c_X11_house ν H.size (xs (i + (1 : Int32)).toNatClampNeg) (t_house hR (Qm := fun _ ν9 => FQ ν ν9) (fun r ν9 f => f))) (cwV 1 ht (G_V q_1584 q_1585 q_1586 q_56 q_1587) rfl rfl rfl ⟨rfl, vd_80⟩ ⟨Nat.le_of_ble_eq_true rfl, Nat.le_of_ble_eq_true rfl⟩) ⟨MB.blind, M_recv hg.2.1 hw, MB.pre hg.2.1 hJ hw va_P0 ne0⟩ rfl rfl hl.1 rfl (lv_room (Nat.le_of_ble_eq_true rfl)) dL_law_1496 ⟨show cv + 1 + 0 ≤ 600128 by omega, show sv + 6 + 0 ≤ 7301098 by omega⟩) (fun r2 ν2 H locs hf2 hw => ?_)
  have hK2b := hK1.trans hf2.2.symm
  refine lv_istore (lv' := [(6, .int r2), (5, .int r1), (0, .ref b), (1, .ref (ad 0)), (2, .ref (bd 0)), (3, .ref q), (4, .int i)]) hx hb dL_law_1499 hl (by decide) rfl (fun ls hl => ?_)
  refine lv_goto (tgt := 1543) hx hb dL_law_1501 (by decide) ?_
  refine W.widen (show cv + 1 + 0 ≤ cv + 2000 by omega) (show sv + 6 + 0 ≤ sv + 112000 by omega) ?_
  exact hJ3 μ1 ν2 nv1 sw1 H locs ls hK2b hG1 hf2.1 hw (lv_sub hl [2, 3, 4, 5, 6] rfl)
set_option maxHeartbeats 4000000 in
set_option maxRecDepth 100000 in
theorem law_27 {p : Program} {l : Launch} {e : Env} {s : State} {m : MethodId} {b : Nat} {below : List Frame} {meth : Method} {c : Code} {L : Nat} {xs : Nat → Int32} {D : va_G} {ad bd : Nat → Nat} {cI cL cM cB : ClassId} {q : Nat} {Z : State → Prop} {i : Int32} {cv sv : Nat} (C0 : LC p l s m b c L xs D ad bd cI cL cM cB) (hi : 0 ≤ i.toInt) (hiL : i.toInt + 6 ≤ L) (hcv : cv + 2000 ≤ 600128) (hsv : sv + 112000 ≤ 7301098) (hJ3 : LJ p l e s m b below meth c D ad bd cI cM q Z i (cv + 2000) (sv + 112000) 1543) : LJ p l e s m b below meth c D ad bd cI cM q Z i cv sv 1504 := by
  obtain ⟨hx, hb, hml, hown, ht, hg, hI, hJ, hXs, hbl, hst, hL⟩ := C0
  have hbA : ¬ SA s.heap.size b := Nat.not_le.mpr hbl
  intro μ ν nv sw H locs ls hK0 hG hR hw hl
  have hi1 : (i + (1 : Int32)).toInt = i.toInt + 1 := ii_a rfl (show (1 : Int32).toInt = 1 from rfl) (by omega) (by omega)
  have hi2 : (i + (2 : Int32)).toInt = i.toInt + 2 := ii_a rfl (show (2 : Int32).toInt = 2 from rfl) (by omega) (by omega)
  have hi3 : (i + (3 : Int32)).toInt = i.toInt + 3 := ii_a rfl (show (3 : Int32).toInt = 3 from rfl) (by omega) (by omega)
  have hi4 : (i + (4 : Int32)).toInt = i.toInt + 4 := ii_a rfl (show (4 : Int32).toInt = 4 from rfl) (by omega) (by omega)
  have hi5 : (i + (5 : Int32)).toInt = i.toInt + 5 := ii_a rfl (show (5 : Int32).toInt = 5 from rfl) (by omega) (by omega)
  have hv0 : vp_in i L := vin (by omega)
  have hv1 : vp_in (i + (1 : Int32)) L := vin (by omega)
  have hv2 : vp_in (i + (2 : Int32)) L := vin (by omega)
  have hv3 : vp_in (i + (3 : Int32)) L := vin (by omega)
  have hv4 : vp_in (i + (4 : Int32)) L := vin (by omega)
  have hv5 : vp_in (i + (5 : Int32)) L := vin (by omega)
  refine lv_aload_n hx hb dL_law_1504 rfl (lv_at hl 1 rfl) ?_
  refine LL_ti hw hI (va_runV (own := "LeastreaderLaw") (As := []) (rest := []) ⟨hx, hb, hml, hown, ht⟩ (c_X9_knock μ H.size (k_knock (Q := fun r μ9 => r = μ 0 13 + 1 ∧ (GB μ → GB μ9) ∧ μ9 0 13 = μ 0 13 + 1) (fun μ9 h1 h2 => ⟨rfl, h1, h2⟩))) (cwV 0 ht (G_V q_306 q_307 q_308 q_46 q_309) rfl rfl rfl ⟨rfl, vd_81⟩ ⟨Nat.le_of_ble_eq_true rfl, Nat.le_of_ble_eq_true rfl⟩) ⟨TB.blind, LL_rv hg hw, hg.pT hI hw⟩ rfl rfl hl.1 rfl (lv_room (Nat.le_of_ble_eq_true rfl)) dL_law_1505 ⟨show cv + 0 ≤ 600128 by omega, show sv + 0 ≤ 7301098 by omega⟩) (fun r1 μ1 H locs hq1 hw => ?_)
  refine lv_aload_n hx hb dL_law_1508 rfl (lv_at hl 2 rfl) ?_
  refine M_calli hw (LZ_MA hw) (va_runV (own := "LeastreaderLaw") (As := []) (rest := [.int r1]) ⟨hx, hb, hml, hown, ht⟩ (c_X11_knock ν H.size (t_knock hR (Qm := fun r ν9 => r = ν 0 6 + 1 ∧ RI ν9 ∧ ν9 0 6 = ν 0 6 + 1) (fun ν9 h1 h2 => ⟨rfl, h1, h2⟩))) (cwV 0 ht (G_V q_1588 q_1589 q_1590 q_56 q_1591) rfl rfl rfl ⟨rfl, vd_82⟩ ⟨Nat.le_of_ble_eq_true rfl, Nat.le_of_ble_eq_true rfl⟩) ⟨MB.blind, M_recv hg.2.1 hw, MB.pre hg.2.1 hJ hw va_P0 ne0⟩ rfl rfl hl.1 rfl (lv_room (Nat.le_of_ble_eq_true rfl)) dL_law_1509 ⟨show cv + 0 + 0 ≤ 600128 by omega, show sv + 0 + 0 ≤ 7301098 by omega⟩) (fun r2 ν2 H locs hf2 hw => ?_)
  obtain ⟨a1, a2, a3⟩ := hq1
  obtain ⟨b1, b2, b3⟩ := hf2
  refine lv_icmp_eq (tgt := 1543) hx hb dL_law_1512 (by decide) (fun c9 => ?_) (fun c9 => absurd (by rw [a1, b1, hK0]) c9)
  refine W.widen (show cv + 0 + 0 ≤ cv + 2000 by omega) (show sv + 0 + 0 ≤ sv + 112000 by omega) ?_
  exact hJ3 μ1 ν2 nv sw H locs ls (a3.trans ((congrArg (· + 1) hK0).trans b3.symm)) (a2 hG) b2 hw (lv_sub hl [0, 1, 2, 3, 4] rfl)
set_option maxHeartbeats 4000000 in
set_option maxRecDepth 100000 in
theorem law_28 {p : Program} {l : Launch} {e : Env} {s : State} {m : MethodId} {b : Nat} {below : List Frame} {meth : Method} {c : Code} {L : Nat} {xs : Nat → Int32} {D : va_G} {ad bd : Nat → Nat} {cI cL cM cB : ClassId} {q : Nat} {Z : State → Prop} {i : Int32} {cv sv : Nat} (C0 : LC p l s m b c L xs D ad bd cI cL cM cB) (hi : 0 ≤ i.toInt) (hiL : i.toInt + 6 ≤ L) (hcv : cv + 2000 ≤ 600128) (hsv : sv + 112000 ≤ 7301098) (hJ3 : LJ p l e s m b below meth c D ad bd cI cM q Z i (cv + 2000) (sv + 112000) 1543) : LJ p l e s m b below meth c D ad bd cI cM q Z i cv sv 1517 := by
  obtain ⟨hx, hb, hml, hown, ht, hg, hI, hJ, hXs, hbl, hst, hL⟩ := C0
  have hbA : ¬ SA s.heap.size b := Nat.not_le.mpr hbl
  intro μ ν nv sw H locs ls hK0 hG hR hw hl
  have hi1 : (i + (1 : Int32)).toInt = i.toInt + 1 := ii_a rfl (show (1 : Int32).toInt = 1 from rfl) (by omega) (by omega)
  have hi2 : (i + (2 : Int32)).toInt = i.toInt + 2 := ii_a rfl (show (2 : Int32).toInt = 2 from rfl) (by omega) (by omega)
  have hi3 : (i + (3 : Int32)).toInt = i.toInt + 3 := ii_a rfl (show (3 : Int32).toInt = 3 from rfl) (by omega) (by omega)
  have hi4 : (i + (4 : Int32)).toInt = i.toInt + 4 := ii_a rfl (show (4 : Int32).toInt = 4 from rfl) (by omega) (by omega)
  have hi5 : (i + (5 : Int32)).toInt = i.toInt + 5 := ii_a rfl (show (5 : Int32).toInt = 5 from rfl) (by omega) (by omega)
  have hv0 : vp_in i L := vin (by omega)
  have hv1 : vp_in (i + (1 : Int32)) L := vin (by omega)
  have hv2 : vp_in (i + (2 : Int32)) L := vin (by omega)
  have hv3 : vp_in (i + (3 : Int32)) L := vin (by omega)
  have hv4 : vp_in (i + (4 : Int32)) L := vin (by omega)
  have hv5 : vp_in (i + (5 : Int32)) L := vin (by omega)
  refine lv_aload_n hx hb dL_law_1517 rfl (lv_at hl 1 rfl) ?_
  refine LL_xi (X := fun E _ => E ∈ ex_) (fun E _ h => by simp [ex_] at h) hw hI (vx_runV (own := "LeastreaderLaw") (As := []) (rest := []) ⟨hx, hb, hml, hown, ht⟩ (c_X9_isSound hst μ H.size (f_X9_isSound μ (Q := fun r μ9 => KQ μ μ9) (X := fun E _ => E ∈ ex_) (fun r μ9 _ f => f.kq rfl) (fun E μ9 he _ => he))) (cwV 0 ht (G_V q_310 q_311 q_312 q_46 q_313) rfl rfl rfl ⟨rfl, vd_83⟩ ⟨Nat.le_of_ble_eq_true rfl, Nat.le_of_ble_eq_true rfl⟩) ⟨TBX.blind, LL_rv hg hw, hg.pX hI hw⟩ rfl rfl hl.1 rfl (lv_room (Nat.le_of_ble_eq_true rfl)) dL_law_1518 ⟨show cv + 1 ≤ 600128 by omega, show sv + 6 ≤ 7301098 by omega⟩) (fun r1 μ1 H locs hq1 hw => ?_)
  have hK1 := hq1.1.trans hK0
  have hG1 := hq1.2 hG
  refine lv_pop hx hb dL_law_1521 rfl ?_
  refine lv_aload_n hx hb dL_law_1522 rfl (lv_at hl 2 rfl) ?_
  refine M_calli hw (LZ_MA hw) (va_runV (own := "LeastreaderLaw") (As := []) (rest := []) ⟨hx, hb, hml, hown, ht⟩ (c_X11_isSound ν H.size  (t_isSound hR (Qm := fun _ ν9 => FQ ν ν9) (fun ν9 f => f))) (cwV 0 ht (G_V q_1592 q_1593 q_1594 q_56 q_1595) rfl rfl rfl ⟨rfl, vd_84⟩ ⟨Nat.le_of_ble_eq_true rfl, Nat.le_of_ble_eq_true rfl⟩) ⟨MB.blind, M_recv hg.2.1 hw, MB.pre hg.2.1 hJ hw va_P0 ne0⟩ rfl rfl hl.1 rfl (lv_room (Nat.le_of_ble_eq_true rfl)) dL_law_1523 ⟨show cv + 1 + 0 ≤ 600128 by omega, show sv + 6 + 0 ≤ 7301098 by omega⟩) (fun r2 ν2 H locs hf2 hw => ?_)
  have hK2b := hK1.trans hf2.2.symm
  refine lv_pop hx hb dL_law_1526 rfl ?_
  refine lv_goto (tgt := 1543) hx hb dL_law_1527 (by decide) ?_
  refine W.widen (show cv + 1 + 0 ≤ cv + 2000 by omega) (show sv + 6 + 0 ≤ sv + 112000 by omega) ?_
  exact hJ3 μ1 ν2 nv sw H locs ls hK2b hG1 hf2.1 hw (lv_sub hl [0, 1, 2, 3, 4] rfl)
set_option maxHeartbeats 4000000 in
set_option maxRecDepth 100000 in
theorem law_29 {p : Program} {l : Launch} {e : Env} {s : State} {m : MethodId} {b : Nat} {below : List Frame} {meth : Method} {c : Code} {L : Nat} {xs : Nat → Int32} {D : va_G} {ad bd : Nat → Nat} {cI cL cM cB : ClassId} {q : Nat} {Z : State → Prop} {i : Int32} {cv sv : Nat} (C0 : LC p l s m b c L xs D ad bd cI cL cM cB) (hi : 0 ≤ i.toInt) (hiL : i.toInt + 6 ≤ L) (hcv : cv + 2000 ≤ 600128) (hsv : sv + 112000 ≤ 7301098) (hJ3 : LJ p l e s m b below meth c D ad bd cI cM q Z i (cv + 2000) (sv + 112000) 1543) : LJ p l e s m b below meth c D ad bd cI cM q Z i cv sv 1530 := by
  obtain ⟨hx, hb, hml, hown, ht, hg, hI, hJ, hXs, hbl, hst, hL⟩ := C0
  have hbA : ¬ SA s.heap.size b := Nat.not_le.mpr hbl
  intro μ ν nv sw H locs ls hK0 hG hR hw hl
  have hi1 : (i + (1 : Int32)).toInt = i.toInt + 1 := ii_a rfl (show (1 : Int32).toInt = 1 from rfl) (by omega) (by omega)
  have hi2 : (i + (2 : Int32)).toInt = i.toInt + 2 := ii_a rfl (show (2 : Int32).toInt = 2 from rfl) (by omega) (by omega)
  have hi3 : (i + (3 : Int32)).toInt = i.toInt + 3 := ii_a rfl (show (3 : Int32).toInt = 3 from rfl) (by omega) (by omega)
  have hi4 : (i + (4 : Int32)).toInt = i.toInt + 4 := ii_a rfl (show (4 : Int32).toInt = 4 from rfl) (by omega) (by omega)
  have hi5 : (i + (5 : Int32)).toInt = i.toInt + 5 := ii_a rfl (show (5 : Int32).toInt = 5 from rfl) (by omega) (by omega)
  have hv0 : vp_in i L := vin (by omega)
  have hv1 : vp_in (i + (1 : Int32)) L := vin (by omega)
  have hv2 : vp_in (i + (2 : Int32)) L := vin (by omega)
  have hv3 : vp_in (i + (3 : Int32)) L := vin (by omega)
  have hv4 : vp_in (i + (4 : Int32)) L := vin (by omega)
  have hv5 : vp_in (i + (5 : Int32)) L := vin (by omega)
  refine lv_aload_n hx hb dL_law_1530 rfl (lv_at hl 1 rfl) ?_
  refine LL_xl (X := fun E _ => E ∈ ex_) (fun E _ h => by simp [ex_] at h) hw hI (vx_runV (own := "LeastreaderLaw") (As := []) (rest := []) ⟨hx, hb, hml, hown, ht⟩ (c_X9_digest hst μ H.size (f_X9_digest μ (Q := fun r μ9 => KQ μ μ9) (X := fun E _ => E ∈ ex_) (fun r μ9 f => f.kq rfl) (fun E μ9 he _ => he))) (cwV 0 ht (G_V q_550 q_551 q_552 q_46 q_553) rfl rfl rfl ⟨rfl, vd_85⟩ ⟨Nat.le_of_ble_eq_true rfl, Nat.le_of_ble_eq_true rfl⟩) ⟨TBX.blind, LL_rv hg hw, hg.pX hI hw⟩ rfl rfl hl.1 rfl (lv_room (Nat.le_of_ble_eq_true rfl)) dL_law_1531 ⟨show cv + 1 ≤ 600128 by omega, show sv + 6 ≤ 7301098 by omega⟩) (fun r1 μ1 H locs hq1 hw => ?_)
  have hK1 := hq1.1.trans hK0
  have hG1 := hq1.2 hG
  refine lv_pop2_2 hx hb dL_law_1534 rfl ?_
  refine lv_aload_n hx hb dL_law_1535 rfl (lv_at hl 2 rfl) ?_
  refine M_calll hw (LZ_MA hw) (va_runV (own := "LeastreaderLaw") (As := []) (rest := []) ⟨hx, hb, hml, hown, ht⟩ (c_X11_digest ν H.size  (t_digest hR (Qd := fun _ ν9 => FQ ν ν9) (fun r ν9 f => f))) (cwV 0 ht (G_V q_1596 q_1597 q_1598 q_56 q_1599) rfl rfl rfl ⟨rfl, vd_86⟩ ⟨Nat.le_of_ble_eq_true rfl, Nat.le_of_ble_eq_true rfl⟩) ⟨MB.blind, M_recv hg.2.1 hw, MB.pre hg.2.1 hJ hw va_P0 ne0⟩ rfl rfl hl.1 rfl (lv_room (Nat.le_of_ble_eq_true rfl)) dL_law_1536 ⟨show cv + 1 + 0 ≤ 600128 by omega, show sv + 6 + 0 ≤ 7301098 by omega⟩) (fun r2 ν2 H locs hf2 hw => ?_)
  have hK2b := hK1.trans hf2.2.symm
  refine lv_pop2_2 hx hb dL_law_1539 rfl ?_
  refine lv_goto (tgt := 1543) hx hb dL_law_1540 (by decide) ?_
  refine W.widen (show cv + 1 + 0 ≤ cv + 2000 by omega) (show sv + 6 + 0 ≤ sv + 112000 by omega) ?_
  exact hJ3 μ1 ν2 nv sw H locs ls hK2b hG1 hf2.1 hw (lv_sub hl [0, 1, 2, 3, 4] rfl)
