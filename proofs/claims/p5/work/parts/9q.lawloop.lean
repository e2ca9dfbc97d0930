section LLP
theorem and31 (x : Int32) : 0 ≤ (x &&& (31 : Int32)).toInt ∧ (x &&& (31 : Int32)).toInt ≤ 31 := by
  have h : (x &&& (31 : Int32)).toBitVec.toNat ≤ 31 := by
    rw [Int32.toBitVec_and, BitVec.toNat_and]
    exact Nat.and_le_right
  have e : (x &&& (31 : Int32)).toInt = ((x &&& (31 : Int32)).toBitVec.toNat : Int) := by
    rw [← Int32.toInt_toBitVec]
    exact BitVec.toInt_eq_toNat_of_lt (by omega)
  omega
set_option maxHeartbeats 4000000 in
set_option maxRecDepth 100000 in
theorem law_loop {p : Program} {l : Launch} {e : Env} {s : State} {m : MethodId} {b : Nat} {below : List Frame} {meth : Method} {c : Code} {L : Nat} {xs : Nat → Int32} {D : va_G} {ad bd : Nat → Nat} {cI cL cM cB : ClassId} {q : Nat} {Z : State → Prop} {JI : TMem → TMem → Prop} (hRI : ∀ {μ ν : TMem}, JI μ ν → RI ν) (hm0 : GM_begin JI) (hm1 : GM_arrow JI) (hm2 : GM_lead JI) (hm3 : GM_mark JI) (hm4 : GM_sow JI) (hm5 : GM_copy JI) (hm6 : GM_swap JI) (hm7 : GM_turn JI) (hm8 : GM_other JI) (hm9 : GM_grow JI) (hm10 : GM_drop JI) (hm11 : GM_make JI) (hm12 : GM_combine JI) (hm13 : GM_tell JI) (hm14 : GM_arrows JI) (hm15 : GM_takes JI) (hm16 : GM_after JI) (hm17 : GM_size JI) (hm18 : GM_text JI) (hm19 : GM_kind JI) (hm20 : GM_many JI) (hm21 : GM_word JI) (hm22 : GM_isAlike JI) (hm23 : GM_apart JI) (hm24 : GM_pairs JI) (hm25 : GM_together JI) (hm26 : GM_house JI) (hm27 : GM_knock JI) (hm28 : GM_isSound JI) (hm29 : GM_digest JI) (C0 : LC p l s m b c L xs D ad bd cI cL cM cB) (hE : ∀ (H : Heap) (ls : Array Slot), W p l e room_1 s m #[.ref b] below meth c H [] 600128 7301098 Z (F0 m 1579 ls [.int 1])) :
    ∀ (n t : Nat) (i : Int32), 65 - t < n → t ≤ 64 → i.toInt = 6 * (t : Int) → LJ p l e s m b below meth c D ad bd cI cM q Z JI i (100 + 2000 * t) (6000 + 112000 * t) 27 := by
  intro n
  induction n with
  | zero => intro t i hk; exact absurd hk (Nat.not_lt_zero _)
  | succ n ih =>
    intro t i hk ht64 hi μ ν nv sw H locs ls hJI hw hl
    obtain ⟨hx, hb, hml, hown, ht, hg, hI, hJ, hXs, hbl, hst, hL⟩ := id C0
    have hbA : ¬ SA s.heap.size b := Nat.not_le.mpr hbl
    have eL : (Int32.ofNat L).toInt = (L : Int) := ii_nI (by omega)
    refine lv_iload hx hb dL_law_27 (lv_at hl 4 rfl) ?_
    refine lv_aload_n hx hb dL_law_29 rfl (lv_at hl 0 rfl) ?_
    refine va_slen hx hb hXs hbl hbA hw.2.2.1 dL_law_30 ?_
    refine lv_bipush (v := (6 : Int32)) hx hb dL_law_31 (by decide) ?_
    refine lv_isub hx hb dL_law_33 ?_
    have e6 : (Int32.ofNat L - (6 : Int32)).toInt = (L : Int) - 6 := ii_s eL (show (6 : Int32).toInt = 6 from rfl) (by omega) (by omega)
    refine lv_icmp_gt (tgt := 1578) hx hb dL_law_34 (by decide) (fun c1 => ?_) (fun c1 => ?_)
    · refine lv_iconst (v := (1 : Int32)) hx hb dL_law_1578 (by decide) ?_
      refine W.widen (show 100 + 2000 * t ≤ 600128 by omega) (show 6000 + 112000 * t ≤ 7301098 by omega) ?_
      exact va_forget (fun x hx => hw.2.2.1.2.2 x hx) (hE H ls)
    have hiL : i.toInt + 6 ≤ L := by
      rw [l_lt, e6] at c1
      omega
    have hv0 : vp_in i L := vin (by omega)
    have ei : (i + (6 : Int32)).toInt = i.toInt + 6 := ii_a rfl (show (6 : Int32).toInt = 6 from rfl) (by omega) (by omega)
    have J3 : LJ p l e s m b below meth c D ad bd cI cM q Z JI i (100 + 2000 * t + 2000) (6000 + 112000 * t + 112000) 1572 := by
      intro μ ν nv sw H locs ls hJI hw hl
      have J := ih (t + 1) (i + (6 : Int32)) (by omega) (by omega) (by omega)
      rw [show 100 + 2000 * (t + 1) = 100 + 2000 * t + 2000 by omega, show 6000 + 112000 * (t + 1) = 6000 + 112000 * t + 112000 by omega] at J
      refine lv_iinc (v := (i + (6 : Int32))) (lv' := [(4, .int (i + (6 : Int32))), (0, .ref b), (1, .ref (ad 0)), (2, .ref (bd 0)), (3, .ref q)]) hx hb dL_law_1572 hl (k := 4) rfl rfl (by decide) rfl (fun ls hl => ?_)
      refine lv_goto (tgt := 27) hx hb dL_law_1575 (by decide) ?_
      exact J μ ν nv sw H locs ls hJI hw (lv_sub hl [1, 2, 3, 4, 0] rfl)
    have hcv : 100 + 2000 * t + 2000 ≤ 600128 := by omega
    have hsv : 6000 + 112000 * t + 112000 ≤ 7301098 := by omega
    refine lv_aload_n hx hb dL_law_37 rfl (lv_at hl 0 rfl) ?_
    refine lv_iload hx hb dL_law_38 (lv_at hl 4 rfl) ?_
    refine va_sld hx hb hXs hbl hbA hw.2.2.1 (i := i) hv0 dL_law_40 ?_
    refine lv_bipush (v := (31 : Int32)) hx hb dL_law_41 (by decide) ?_
    refine lv_iand hx hb dL_law_43 ?_
    obtain ⟨h0, h31⟩ := and31 (xs i.toNatClampNeg)
    generalize (xs i.toNatClampNeg) &&& (31 : Int32) = v at h0 h31 ⊢
    have hi0 : 0 ≤ i.toInt := by omega
    by_cases hv : 29 < v.toInt
    · refine lv_tableOut (tgt := 1572) hx hb dL_law_44 (Or.inr hv) (by decide) ?_
      exact W.widen (show 100 + 2000 * t ≤ 100 + 2000 * t + 2000 by omega) (show 6000 + 112000 * t ≤ 6000 + 112000 * t + 112000 by omega) (J3 μ ν nv sw H locs ls hJI hw hl)
    rcases (show v.toInt = 0 ∨ v.toInt = 1 ∨ v.toInt = 2 ∨ v.toInt = 3 ∨ v.toInt = 4 ∨ v.toInt = 5 ∨ v.toInt = 6 ∨ v.toInt = 7 ∨ v.toInt = 8 ∨ v.toInt = 9 ∨ v.toInt = 10 ∨ v.toInt = 11 ∨ v.toInt = 12 ∨ v.toInt = 13 ∨ v.toInt = 14 ∨ v.toInt = 15 ∨ v.toInt = 16 ∨ v.toInt = 17 ∨ v.toInt = 18 ∨ v.toInt = 19 ∨ v.toInt = 20 ∨ v.toInt = 21 ∨ v.toInt = 22 ∨ v.toInt = 23 ∨ v.toInt = 24 ∨ v.toInt = 25 ∨ v.toInt = 26 ∨ v.toInt = 27 ∨ v.toInt = 28 ∨ v.toInt = 29 by omega) with hk9 | hk9 | hk9 | hk9 | hk9 | hk9 | hk9 | hk9 | hk9 | hk9 | hk9 | hk9 | hk9 | hk9 | hk9 | hk9 | hk9 | hk9 | hk9 | hk9 | hk9 | hk9 | hk9 | hk9 | hk9 | hk9 | hk9 | hk9 | hk9 | hk9
    · exact lv_tableIn (tgt := 180) hx hb dL_law_44 (by rw [hk9]; decide) (by rw [hk9]; decide) (by rw [hk9]; rfl) (by decide) (law_0 hRI hm0 C0 hi0 hiL hcv hsv J3 μ ν nv sw H locs ls hJI hw hl)
    · exact lv_tableIn (tgt := 220) hx hb dL_law_44 (by rw [hk9]; decide) (by rw [hk9]; decide) (by rw [hk9]; rfl) (by decide) (law_1 hRI hm1 C0 hi0 hiL hcv hsv J3 μ ν nv sw H locs ls hJI hw hl)
    · exact lv_tableIn (tgt := 312) hx hb dL_law_44 (by rw [hk9]; decide) (by rw [hk9]; decide) (by rw [hk9]; rfl) (by decide) (law_2 hRI hm2 C0 hi0 hiL hcv hsv J3 μ ν nv sw H locs ls hJI hw hl)
    · exact lv_tableIn (tgt := 376) hx hb dL_law_44 (by rw [hk9]; decide) (by rw [hk9]; decide) (by rw [hk9]; rfl) (by decide) (law_3 hRI hm3 C0 hi0 hiL hcv hsv J3 μ ν nv sw H locs ls hJI hw hl)
    · exact lv_tableIn (tgt := 501) hx hb dL_law_44 (by rw [hk9]; decide) (by rw [hk9]; decide) (by rw [hk9]; rfl) (by decide) (law_4 hRI hm4 C0 hi0 hiL hcv hsv J3 μ ν nv sw H locs ls hJI hw hl)
    · exact lv_tableIn (tgt := 565) hx hb dL_law_44 (by rw [hk9]; decide) (by rw [hk9]; decide) (by rw [hk9]; rfl) (by decide) (law_5 hRI hm5 C0 hi0 hiL hcv hsv J3 μ ν nv sw H locs ls hJI hw hl)
    · exact lv_tableIn (tgt := 605) hx hb dL_law_44 (by rw [hk9]; decide) (by rw [hk9]; decide) (by rw [hk9]; rfl) (by decide) (law_6 hRI hm6 C0 hi0 hiL hcv hsv J3 μ ν nv sw H locs ls hJI hw hl)
    · exact lv_tableIn (tgt := 645) hx hb dL_law_44 (by rw [hk9]; decide) (by rw [hk9]; decide) (by rw [hk9]; rfl) (by decide) (law_7 hRI hm7 C0 hi0 hiL hcv hsv J3 μ ν nv sw H locs ls hJI hw hl)
    · exact lv_tableIn (tgt := 673) hx hb dL_law_44 (by rw [hk9]; decide) (by rw [hk9]; decide) (by rw [hk9]; rfl) (by decide) (law_8 hRI hm8 C0 hi0 hiL hcv hsv J3 μ ν nv sw H locs ls hJI hw hl)
    · exact lv_tableIn (tgt := 701) hx hb dL_law_44 (by rw [hk9]; decide) (by rw [hk9]; decide) (by rw [hk9]; rfl) (by decide) (law_9 hRI hm9 C0 hi0 hiL hcv hsv J3 μ ν nv sw H locs ls hJI hw hl)
    · exact lv_tableIn (tgt := 729) hx hb dL_law_44 (by rw [hk9]; decide) (by rw [hk9]; decide) (by rw [hk9]; rfl) (by decide) (law_10 hRI hm10 C0 hi0 hiL hcv hsv J3 μ ν nv sw H locs ls hJI hw hl)
    · exact lv_tableIn (tgt := 769) hx hb dL_law_44 (by rw [hk9]; decide) (by rw [hk9]; decide) (by rw [hk9]; rfl) (by decide) (law_11 hRI hm11 C0 hi0 hiL hcv hsv J3 μ ν nv sw H locs ls hJI hw hl)
    · exact lv_tableIn (tgt := 837) hx hb dL_law_44 (by rw [hk9]; decide) (by rw [hk9]; decide) (by rw [hk9]; rfl) (by decide) (law_12 hRI hm12 C0 hi0 hiL hcv hsv J3 μ ν nv sw H locs ls hJI hw hl)
    · exact lv_tableIn (tgt := 901) hx hb dL_law_44 (by rw [hk9]; decide) (by rw [hk9]; decide) (by rw [hk9]; rfl) (by decide) (law_13 hRI hm13 C0 hi0 hiL hcv hsv J3 μ ν nv sw H locs ls hJI hw hl)
    · exact lv_tableIn (tgt := 941) hx hb dL_law_44 (by rw [hk9]; decide) (by rw [hk9]; decide) (by rw [hk9]; rfl) (by decide) (law_14 hRI hm14 C0 hi0 hiL hcv hsv J3 μ ν nv sw H locs ls hJI hw hl)
    · exact lv_tableIn (tgt := 993) hx hb dL_law_44 (by rw [hk9]; decide) (by rw [hk9]; decide) (by rw [hk9]; rfl) (by decide) (law_15 hRI hm15 C0 hi0 hiL hcv hsv J3 μ ν nv sw H locs ls hJI hw hl)
    · exact lv_tableIn (tgt := 1045) hx hb dL_law_44 (by rw [hk9]; decide) (by rw [hk9]; decide) (by rw [hk9]; rfl) (by decide) (law_16 hRI hm16 C0 hi0 hiL hcv hsv J3 μ ν nv sw H locs ls hJI hw hl)
    · exact lv_tableIn (tgt := 1109) hx hb dL_law_44 (by rw [hk9]; decide) (by rw [hk9]; decide) (by rw [hk9]; rfl) (by decide) (law_17 hRI hm17 C0 hi0 hiL hcv hsv J3 μ ν nv sw H locs ls hJI hw hl)
    · exact lv_tableIn (tgt := 1149) hx hb dL_law_44 (by rw [hk9]; decide) (by rw [hk9]; decide) (by rw [hk9]; rfl) (by decide) (law_18 hRI hm18 C0 hi0 hiL hcv hsv J3 μ ν nv sw H locs ls hJI hw hl)
    · exact lv_tableIn (tgt := 1189) hx hb dL_law_44 (by rw [hk9]; decide) (by rw [hk9]; decide) (by rw [hk9]; rfl) (by decide) (law_19 hRI hm19 C0 hi0 hiL hcv hsv J3 μ ν nv sw H locs ls hJI hw hl)
    · exact lv_tableIn (tgt := 1217) hx hb dL_law_44 (by rw [hk9]; decide) (by rw [hk9]; decide) (by rw [hk9]; rfl) (by decide) (law_20 hRI hm20 C0 hi0 hiL hcv hsv J3 μ ν nv sw H locs ls hJI hw hl)
    · exact lv_tableIn (tgt := 1269) hx hb dL_law_44 (by rw [hk9]; decide) (by rw [hk9]; decide) (by rw [hk9]; rfl) (by decide) (law_21 hRI hm21 C0 hi0 hiL hcv hsv J3 μ ν nv sw H locs ls hJI hw hl)
    · exact lv_tableIn (tgt := 1309) hx hb dL_law_44 (by rw [hk9]; decide) (by rw [hk9]; decide) (by rw [hk9]; rfl) (by decide) (law_22 hRI hm22 C0 hi0 hiL hcv hsv J3 μ ν nv sw H locs ls hJI hw hl)
    · exact lv_tableIn (tgt := 1361) hx hb dL_law_44 (by rw [hk9]; decide) (by rw [hk9]; decide) (by rw [hk9]; rfl) (by decide) (law_23 hRI hm23 C0 hi0 hiL hcv hsv J3 μ ν nv sw H locs ls hJI hw hl)
    · exact lv_tableIn (tgt := 1401) hx hb dL_law_44 (by rw [hk9]; decide) (by rw [hk9]; decide) (by rw [hk9]; rfl) (by decide) (law_24 hRI hm24 C0 hi0 hiL hcv hsv J3 μ ν nv sw H locs ls hJI hw hl)
    · exact lv_tableIn (tgt := 1441) hx hb dL_law_44 (by rw [hk9]; decide) (by rw [hk9]; decide) (by rw [hk9]; rfl) (by decide) (law_25 hRI hm25 C0 hi0 hiL hcv hsv J3 μ ν nv sw H locs ls hJI hw hl)
    · exact lv_tableIn (tgt := 1505) hx hb dL_law_44 (by rw [hk9]; decide) (by rw [hk9]; decide) (by rw [hk9]; rfl) (by decide) (law_26 hRI hm26 C0 hi0 hiL hcv hsv J3 μ ν nv sw H locs ls hJI hw hl)
    · exact lv_tableIn (tgt := 1533) hx hb dL_law_44 (by rw [hk9]; decide) (by rw [hk9]; decide) (by rw [hk9]; rfl) (by decide) (law_27 hRI hm27 C0 hi0 hiL hcv hsv J3 μ ν nv sw H locs ls hJI hw hl)
    · exact lv_tableIn (tgt := 1546) hx hb dL_law_44 (by rw [hk9]; decide) (by rw [hk9]; decide) (by rw [hk9]; rfl) (by decide) (law_28 hRI hm28 C0 hi0 hiL hcv hsv J3 μ ν nv sw H locs ls hJI hw hl)
    · exact lv_tableIn (tgt := 1559) hx hb dL_law_44 (by rw [hk9]; decide) (by rw [hk9]; decide) (by rw [hk9]; rfl) (by decide) (law_29 hRI hm29 C0 hi0 hiL hcv hsv J3 μ ν nv sw H locs ls hJI hw hl)
end LLP
