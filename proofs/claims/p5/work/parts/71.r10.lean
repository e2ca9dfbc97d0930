def wpl_X11_become_58 (fa2 : Nat → Int32) (na2 : Nat) (v14 : Int32) (v15 : Int32) (K92 : TMem → Prop) : Nat → Int32 → TMem → Prop
  | 0, _, _ => False
  | n + 1, v13, μ16 =>
    ((3 : Int32) ≤ v13 → (K92 μ16)) ∧ (¬ (3 : Int32) ≤ v13 → (wp_X11_key v15 v14 v13 (fun (r18 : Int32) => vp_in (((4 : Int32) * v14) + v13) na2 ∧ (vp_in r18 (ml 4) ∧ (wpl_X11_become_58 fa2 na2 v14 v15 K92 n (v13 + (1 : Int32)) (tms μ16 4 r18.toNatClampNeg ((1 : Int32) <<< ((fa2 (((4 : Int32) * v14) + v13).toNatClampNeg) &&& 31))))))))
def wpl_X11_become_27 (fa2 : Nat → Int32) (na2 : Nat) (v5 : Int32) (K98 : TMem → Prop) : Nat → Int32 → TMem → Prop
  | 0, _, _ => False
  | n + 1, v4, μ6 =>
    vp_in v5 (ml 1) ∧ (((μ6 1 v5.toNatClampNeg) ≤ v4 → (K98 μ6)) ∧ (¬ (μ6 1 v5.toNatClampNeg) ≤ v4 → (vp_in v5 (ml 3) ∧ (vp_in (((4 : Int32) * v4) + (3 : Int32)) na2 ∧ (vp_in v5 (ml 3) ∧ (∃ n11x, wpl_X11_become_58 fa2 na2 v4 v5 (fun (μ22 : TMem) => wpl_X11_become_27 fa2 na2 v5 K98 n (v4 + (1 : Int32)) μ22) n11x (0 : Int32) (tms μ6 3 v5.toNatClampNeg ((μ6 3 v5.toNatClampNeg) ||| ((fa2 (((4 : Int32) * v4) + (3 : Int32)).toNatClampNeg) <<< (v4 &&& 31))))))))))
def wp_X11_become (μ : TMem) (a1 : Int32) (na2 : Nat) (fa2 : Nat → Int32) (Q : Int32 → TMem → Prop) : Prop :=
  ((nI na2) ≤ (28 : Int32) → (wp_X11_clear μ a1 ((nI na2) / (4 : Int32)) (fun (μ2 : TMem) => ∃ n2x, wpl_X11_become_27 fa2 na2 a1 (fun (μ24 : TMem) => vp_in a1 (ml 1) ∧ (wp_X11_did μ24 (μ24 1 a1.toNatClampNeg) (fun (r27 : Int32) (μ26 : TMem) => Q r27 μ26))) n2x (0 : Int32) μ2))) ∧ (¬ (nI na2) ≤ (28 : Int32) → (wp_X11_refuse μ (fun (r29 : Int32) (μ28 : TMem) => Q r29 μ28)))
set_option maxHeartbeats 4000000 in
set_option maxRecDepth 100000 in
theorem c_X11_become {l : Launch} {D : va_G} {ad : Nat → Nat} {cI cL : ClassId} (qa2 : Nat) (μ : TMem) (sz : Nat) (a1 : Int32) (na2 : Nat) (fa2 : Nat → Int32)  {Q : Int32 → TMem → Prop} (h : wp_X11_become μ a1 na2 fa2 Q) : MMi l yX11_become (.code yX11_become cX11_become 5 (Option.some Jvm.ClassFile.FieldType.int)) 2 0 0 [.ref (ad 0), .int a1, .ref qa2] D ad cI cL sz μ [eI cI qa2 na2 fa2] Q := by
  refine M_meti (by decide +kernel) (Nat.le_of_ble_eq_true rfl) ?_
  intro p e s m below meth c Z ls hx hb hml hown ht hK hP0 hI hne hw hret hl
  have hl : lv_has ls 5 [(0, .ref (ad 0)), (1, .int a1), (2, .ref qa2)] := hl
  have hL0 := va_Ph hP0
  have hB0 : ¬ MA ad s.heap.size qa2 := fun z => z.elim (fun ⟨k, hk, e⟩ => hne 0 _ rfl k hk e) (fun z => absurd hL0.lt (Nat.not_lt.mpr z))
  suffices hh : ∀ (H : Heap) (locs : List Loc), MW D (MR ad cI μ) [] (MA ad s.heap.size) s H locs → W p l e (RA 2 0 0) s m #[.ref (ad 0), .int a1, .ref qa2] below meth c H locs 0 0 Z (F0 m 0 ls []) from hh _ _ hw
  intro H locs hw
  change ((nI na2) ≤ (28 : Int32) → (wp_X11_clear μ a1 ((nI na2) / (4 : Int32)) (fun (μ2 : TMem) => ∃ n2x, wpl_X11_become_27 fa2 na2 a1 (fun (μ24 : TMem) => vp_in a1 (ml 1) ∧ (wp_X11_did μ24 (μ24 1 a1.toNatClampNeg) (fun (r27 : Int32) (μ26 : TMem) => Q r27 μ26))) n2x (0 : Int32) μ2))) ∧ (¬ (nI na2) ≤ (28 : Int32) → (wp_X11_refuse μ (fun (r29 : Int32) (μ28 : TMem) => Q r29 μ28))) at h
  refine lv_aload_n hx hb dX11_become_0 rfl (lv_at hl 2 rfl) ?_
  refine lv_ifnull hx hb dX11_become_1 ?_
  refine lv_aload_n hx hb dX11_become_4 rfl (lv_at hl 2 rfl) ?_
  refine n_alenI hx hb hK (hw.arg hL0 hB0) dX11_become_5 ?_
  refine lv_bipush (v := (28 : Int32)) hx hb dX11_become_6 (by decide) ?_
  refine lv_icmp_le (tgt := 16) hx hb dX11_become_8 (by decide) (fun c1 => ?_) (fun c1 => ?_)
  · have h := h.1 c1
    refine lv_aload_n hx hb dX11_become_16 rfl (lv_at hl 0 rfl) ?_
    refine lv_iload_n hx hb dX11_become_17 rfl (lv_at hl 1 rfl) ?_
    refine lv_aload_n hx hb dX11_become_18 rfl (lv_at hl 2 rfl) ?_
    refine n_alenI hx hb hK (hw.arg hL0 hB0) dX11_become_19 ?_
    refine lv_iconst (v := (4 : Int32)) hx hb dX11_become_20 (by decide) ?_
    refine lv_idiv hx hb dX11_become_21 (by decide) ?_
    refine M_callv hw (MA.up hw.2.2.1.1) (va_runV (own := "LeastreaderModel") (As := [.int a1, .int ((nI na2) / (4 : Int32))]) (rest := []) ⟨hx, hb, hml, hown, ht⟩ (c_X11_clear μ H.size a1 ((nI na2) / (4 : Int32)) h) (cwV 2 ht (G_V q_1364 q_1366 q_28 q_56 q_1367) rfl rfl rfl ⟨rfl, hd_94⟩ ⟨Nat.le_of_ble_eq_true rfl, Nat.le_of_ble_eq_true rfl⟩) ⟨MB.blind, M_recv hK hw, MB.pre hK hI hw va_P0 ne0⟩ rfl rfl hl.1 rfl (lv_room (Nat.le_of_ble_eq_true rfl)) dX11_become_22 ⟨show 0 + 0 ≤ 0 by omega, show 0 + 0 ≤ 0 by omega⟩) (fun μ2 H locs h hw => ?_)
    refine lv_iconst (v := (0 : Int32)) hx hb dX11_become_25 (by decide) ?_
    refine lv_istore_n (lv' := [(3, .int (0 : Int32)), (0, .ref (ad 0)), (1, .int a1), (2, .ref qa2)]) hx hb dX11_become_26 rfl hl (by decide) rfl (fun ls hl => ?_)
    obtain ⟨n23, h⟩ := h
    have L2 : ∀ (v5 : Int32) (K98 : TMem → Prop), (∀ (μ6 : TMem), ∀ (H : Heap) (locs : List Loc) (ls : Array Slot), MW D (MR ad cI μ6) [] (MA ad s.heap.size) s H locs → lv_has ls 5 [(0, .ref (ad 0)), (1, .int v5)] → K98 μ6 → W p l e (RA 2 0 0) s m #[.ref (ad 0), .int a1, .ref qa2] below meth c H locs 0 0 Z (F0 m 98 ls [])) → ∀ (n : Nat), ∀ (v4 : Int32) (μ6 : TMem), ∀ (H : Heap) (locs : List Loc) (ls : Array Slot), MW D (MR ad cI μ6) [] (MA ad s.heap.size) s H locs → lv_has ls 5 [(3, .int v4), (0, .ref (ad 0)), (1, .int v5), (2, .ref qa2)] → wpl_X11_become_27 fa2 na2 v5 K98 n v4 μ6 → W p l e (RA 2 0 0) s m #[.ref (ad 0), .int a1, .ref qa2] below meth c H locs 0 0 Z (F0 m 27 ls []) := by
      intro v5 K98 hK98
      intro n
      induction n with
      | zero => intro v4 μ6 H locs ls hw hl h; exact False.elim h
      | succ n ih2 =>
        intro v4 μ6 H locs ls hw hl h
        change vp_in v5 (ml 1) ∧ (((μ6 1 v5.toNatClampNeg) ≤ v4 → (K98 μ6)) ∧ (¬ (μ6 1 v5.toNatClampNeg) ≤ v4 → (vp_in v5 (ml 3) ∧ (vp_in (((4 : Int32) * v4) + (3 : Int32)) na2 ∧ (vp_in v5 (ml 3) ∧ (∃ n11x, wpl_X11_become_58 fa2 na2 v4 v5 (fun (μ22 : TMem) => wpl_X11_become_27 fa2 na2 v5 K98 n (v4 + (1 : Int32)) μ22) n11x (0 : Int32) (tms μ6 3 v5.toNatClampNeg ((μ6 3 v5.toNatClampNeg) ||| ((fa2 (((4 : Int32) * v4) + (3 : Int32)).toNatClampNeg) <<< (v4 &&& 31)))))))))) at h
        refine lv_iload_n hx hb dX11_become_27 rfl (lv_at hl 0 rfl) ?_
        refine lv_aload_n hx hb dX11_become_28 rfl (lv_at hl 1 rfl) ?_
        refine m_get (i := 0) hx hb ht hown hK hw (by decide) (ht _ q_1313) rfl rfl dX11_become_29 ?_
        refine lv_iload_n hx hb dX11_become_32 rfl (lv_at hl 2 rfl) ?_
        obtain ⟨z7, h⟩ := h
        refine m_iald hx hb hK hw (by decide) z7 dX11_become_33 ?_
        refine lv_icmp_ge (tgt := 98) hx hb dX11_become_34 (by decide) (fun c8 => ?_) (fun c8 => ?_)
        · have h := h.1 c8
          exact hK98 μ6 H locs ls hw (lv_sub hl [1, 2] rfl) h
        have h := h.2 c8
        refine lv_aload_n hx hb dX11_become_37 rfl (lv_at hl 1 rfl) ?_
        refine m_get (i := 2) hx hb ht hown hK hw (by decide) (ht _ q_1315) rfl rfl dX11_become_38 ?_
        refine lv_iload_n hx hb dX11_become_41 rfl (lv_at hl 2 rfl) ?_
        refine lv_dup2_11 hx hb dX11_become_42 rfl rfl ?_
        obtain ⟨z9, h⟩ := h
        refine m_iald hx hb hK hw (by decide) z9 dX11_become_43 ?_
        refine lv_aload_n hx hb dX11_become_44 rfl (lv_at hl 3 rfl) ?_
        refine lv_iconst (v := (4 : Int32)) hx hb dX11_become_45 (by decide) ?_
        refine lv_iload_n hx hb dX11_become_46 rfl (lv_at hl 0 rfl) ?_
        refine lv_imul hx hb dX11_become_47 ?_
        refine lv_iconst (v := (3 : Int32)) hx hb dX11_become_48 (by decide) ?_
        refine lv_iadd hx hb dX11_become_49 ?_
        obtain ⟨z10, h⟩ := h
        refine n_iald hx hb hK (hw.arg hL0 hB0) z10 dX11_become_50 ?_
        refine lv_iload_n hx hb dX11_become_51 rfl (lv_at hl 0 rfl) ?_
        refine lv_ishl hx hb dX11_become_52 ?_
        refine lv_ior hx hb dX11_become_53 ?_
        obtain ⟨z11, h⟩ := h
        refine m_iast hx hb hK hw (by decide) z11 dX11_become_54 (fun H locs hw => ?_)
        refine lv_iconst (v := (0 : Int32)) hx hb dX11_become_55 (by decide) ?_
        refine lv_istore (lv' := [(4, .int (0 : Int32)), (3, .int v4), (0, .ref (ad 0)), (1, .int v5), (2, .ref qa2)]) hx hb dX11_become_56 hl (by decide) rfl (fun ls hl => ?_)
        obtain ⟨n21, h⟩ := h
        have L11 : ∀ (v14 : Int32) (v15 : Int32) (K92 : TMem → Prop), (∀ (μ16 : TMem), ∀ (H : Heap) (locs : List Loc) (ls : Array Slot), MW D (MR ad cI μ16) [] (MA ad s.heap.size) s H locs → lv_has ls 5 [(3, .int v14), (0, .ref (ad 0)), (1, .int v15), (2, .ref qa2)] → K92 μ16 → W p l e (RA 2 0 0) s m #[.ref (ad 0), .int a1, .ref qa2] below meth c H locs 0 0 Z (F0 m 92 ls [])) → ∀ (n : Nat), ∀ (v13 : Int32) (μ16 : TMem), ∀ (H : Heap) (locs : List Loc) (ls : Array Slot), MW D (MR ad cI μ16) [] (MA ad s.heap.size) s H locs → lv_has ls 5 [(4, .int v13), (3, .int v14), (0, .ref (ad 0)), (1, .int v15), (2, .ref qa2)] → wpl_X11_become_58 fa2 na2 v14 v15 K92 n v13 μ16 → W p l e (RA 2 0 0) s m #[.ref (ad 0), .int a1, .ref qa2] below meth c H locs 0 0 Z (F0 m 58 ls []) := by
          intro v14 v15 K92 hK92
          intro n
          induction n with
          | zero => intro v13 μ16 H locs ls hw hl h; exact False.elim h
          | succ n ih11 =>
            intro v13 μ16 H locs ls hw hl h
            change ((3 : Int32) ≤ v13 → (K92 μ16)) ∧ (¬ (3 : Int32) ≤ v13 → (wp_X11_key v15 v14 v13 (fun (r18 : Int32) => vp_in (((4 : Int32) * v14) + v13) na2 ∧ (vp_in r18 (ml 4) ∧ (wpl_X11_become_58 fa2 na2 v14 v15 K92 n (v13 + (1 : Int32)) (tms μ16 4 r18.toNatClampNeg ((1 : Int32) <<< ((fa2 (((4 : Int32) * v14) + v13).toNatClampNeg) &&& 31)))))))) at h
            refine lv_iload hx hb dX11_become_58 (lv_at hl 0 rfl) ?_
            refine lv_iconst (v := (3 : Int32)) hx hb dX11_become_60 (by decide) ?_
            refine lv_icmp_ge (tgt := 92) hx hb dX11_become_61 (by decide) (fun c17 => ?_) (fun c17 => ?_)
            · have h := h.1 c17
              exact hK92 μ16 H locs ls hw (lv_sub hl [1, 2, 3, 4] rfl) h
            have h := h.2 c17
            refine lv_aload_n hx hb dX11_become_64 rfl (lv_at hl 2 rfl) ?_
            refine m_get (i := 3) hx hb ht hown hK hw (by decide) (ht _ q_1316) rfl rfl dX11_become_65 ?_
            refine lv_iload_n hx hb dX11_become_68 rfl (lv_at hl 3 rfl) ?_
            refine lv_iload_n hx hb dX11_become_69 rfl (lv_at hl 1 rfl) ?_
            refine lv_iload hx hb dX11_become_70 (lv_at hl 0 rfl) ?_
            refine P_calli (va_runS (own := "LeastreaderModel") (As := [.int v15, .int v14, .int v13]) (rest := [.ref (ad 4)]) ⟨hx, hb, hml, hown, ht⟩ (c_X11_key v15 v14 v13 h) (va_cwS 3 ht (G_S q_1360 q_1361 q_56 q_1362) rfl rfl rfl hd_79 ⟨Nat.le_of_ble_eq_true rfl, Nat.le_of_ble_eq_true rfl⟩) ⟨PM_blind, PM_pre⟩ rfl rfl hl.1 rfl (lv_room (Nat.le_of_ble_eq_true rfl)) dX11_become_72 ⟨show 0 + 0 ≤ 0 by omega, show 0 + 0 ≤ 0 by omega⟩) (fun r18 h => ?_)
            refine lv_iconst (v := (1 : Int32)) hx hb dX11_become_75 (by decide) ?_
            refine lv_aload_n hx hb dX11_become_76 rfl (lv_at hl 4 rfl) ?_
            refine lv_iconst (v := (4 : Int32)) hx hb dX11_become_77 (by decide) ?_
            refine lv_iload_n hx hb dX11_become_78 rfl (lv_at hl 1 rfl) ?_
            refine lv_imul hx hb dX11_become_79 ?_
            refine lv_iload hx hb dX11_become_80 (lv_at hl 0 rfl) ?_
            refine lv_iadd hx hb dX11_become_82 ?_
            obtain ⟨z19, h⟩ := h
            refine n_iald hx hb hK (hw.arg hL0 hB0) z19 dX11_become_83 ?_
            refine lv_ishl hx hb dX11_become_84 ?_
            obtain ⟨z20, h⟩ := h
            refine m_iast hx hb hK hw (by decide) z20 dX11_become_85 (fun H locs hw => ?_)
            refine lv_iinc (v := (v13 + (1 : Int32))) (lv' := [(4, .int (v13 + (1 : Int32))), (3, .int v14), (0, .ref (ad 0)), (1, .int v15), (2, .ref qa2)]) hx hb dX11_become_86 hl (k := 0) rfl rfl (by decide) rfl (fun ls hl => ?_)
            refine lv_goto (tgt := 58) hx hb dX11_become_89 (by decide) ?_
            exact ih11 (v13 + (1 : Int32)) (tms μ16 4 r18.toNatClampNeg ((1 : Int32) <<< ((fa2 (((4 : Int32) * v14) + v13).toNatClampNeg) &&& 31))) H locs ls hw (lv_sub hl [0, 1, 2, 3, 4] rfl) h
        refine L11 v4 v5 _ ?_ n21 (0 : Int32) (tms μ6 3 v5.toNatClampNeg ((μ6 3 v5.toNatClampNeg) ||| ((fa2 (((4 : Int32) * v4) + (3 : Int32)).toNatClampNeg) <<< (v4 &&& 31)))) H locs ls hw (lv_sub hl [0, 1, 2, 3, 4] rfl) h
        intro μ22 H locs ls hw hl h
        refine lv_iinc (v := (v4 + (1 : Int32))) (lv' := [(3, .int (v4 + (1 : Int32))), (0, .ref (ad 0)), (1, .int v5), (2, .ref qa2)]) hx hb dX11_become_92 hl (k := 0) rfl rfl (by decide) rfl (fun ls hl => ?_)
        refine lv_goto (tgt := 27) hx hb dX11_become_95 (by decide) ?_
        exact ih2 (v4 + (1 : Int32)) μ22 H locs ls hw (lv_sub hl [0, 1, 2, 3] rfl) h
    refine L2 a1 _ ?_ n23 (0 : Int32) μ2 H locs ls hw (lv_sub hl [0, 1, 2, 3] rfl) h
    intro μ24 H locs ls hw hl h
    refine lv_aload_n hx hb dX11_become_98 rfl (lv_at hl 0 rfl) ?_
    refine lv_aload_n hx hb dX11_become_99 rfl (lv_at hl 0 rfl) ?_
    refine m_get (i := 0) hx hb ht hown hK hw (by decide) (ht _ q_1313) rfl rfl dX11_become_100 ?_
    refine lv_iload_n hx hb dX11_become_103 rfl (lv_at hl 1 rfl) ?_
    obtain ⟨z25, h⟩ := h
    refine m_iald hx hb hK hw (by decide) z25 dX11_become_104 ?_
    refine M_calli hw (MA.up hw.2.2.1.1) (va_runV (own := "LeastreaderModel") (As := [.int (μ24 1 a1.toNatClampNeg)]) (rest := []) ⟨hx, hb, hml, hown, ht⟩ (c_X11_did μ24 H.size (μ24 1 a1.toNatClampNeg) h) (cwV 1 ht (G_V q_1368 q_1370 q_29 q_56 q_1371) rfl rfl rfl ⟨rfl, hd_95⟩ ⟨Nat.le_of_ble_eq_true rfl, Nat.le_of_ble_eq_true rfl⟩) ⟨MB.blind, M_recv hK hw, MB.pre hK hI hw va_P0 ne0⟩ rfl rfl hl.1 rfl (lv_room (Nat.le_of_ble_eq_true rfl)) dX11_become_105 ⟨show 0 + 0 ≤ 0 by omega, show 0 + 0 ≤ 0 by omega⟩) (fun r27 μ26 H locs h hw => ?_)
    exact hret H locs ls 108 _ _ _ _ _ hw h rfl (show 0 ≤ 0 by omega) (show 0 ≤ 0 by omega) dX11_become_108
  have h := h.2 c1
  refine lv_aload_n hx hb dX11_become_11 rfl (lv_at hl 0 rfl) ?_
  refine M_calli hw (MA.up hw.2.2.1.1) (va_runV (own := "LeastreaderModel") (As := []) (rest := []) ⟨hx, hb, hml, hown, ht⟩ (c_X11_refuse μ H.size h) (cwV 0 ht (G_V q_1433 q_1435 q_35 q_56 q_1436) rfl rfl rfl ⟨rfl, hd_101⟩ ⟨Nat.le_of_ble_eq_true rfl, Nat.le_of_ble_eq_true rfl⟩) ⟨MB.blind, M_recv hK hw, MB.pre hK hI hw va_P0 ne0⟩ rfl rfl hl.1 rfl (lv_room (Nat.le_of_ble_eq_true rfl)) dX11_become_12 ⟨show 0 + 0 ≤ 0 by omega, show 0 + 0 ≤ 0 by omega⟩) (fun r29 μ28 H locs h hw => ?_)
  exact hret H locs ls 15 _ _ _ _ _ hw h rfl (show 0 ≤ 0 by omega) (show 0 ≤ 0 by omega) dX11_become_15
def wp_X11_become_n (μ : TMem) (a1 : Int32) (Q : Int32 → TMem → Prop) : Prop :=
  wp_X11_refuse μ (fun (r2 : Int32) (μ1 : TMem) => Q r2 μ1)
set_option maxHeartbeats 4000000 in
set_option maxRecDepth 100000 in
theorem c_X11_become_n {l : Launch} {D : va_G} {ad : Nat → Nat} {cI cL : ClassId}  (μ : TMem) (sz : Nat) (a1 : Int32)  {Q : Int32 → TMem → Prop} (h : wp_X11_become_n μ a1 Q) : MMi l yX11_become (.code yX11_become cX11_become 5 (Option.some Jvm.ClassFile.FieldType.int)) 2 0 0 [.ref (ad 0), .int a1, .null] D ad cI cL sz μ [] Q := by
  refine M_meti (by decide +kernel) (Nat.le_of_ble_eq_true rfl) ?_
  intro p e s m below meth c Z ls hx hb hml hown ht hK hP0 hI hne hw hret hl
  have hl : lv_has ls 5 [(0, .ref (ad 0)), (1, .int a1), (2, .null)] := hl
  suffices hh : ∀ (H : Heap) (locs : List Loc), MW D (MR ad cI μ) [] (MA ad s.heap.size) s H locs → W p l e (RA 2 0 0) s m #[.ref (ad 0), .int a1, .null] below meth c H locs 0 0 Z (F0 m 0 ls []) from hh _ _ hw
  intro H locs hw
  change wp_X11_refuse μ (fun (r2 : Int32) (μ1 : TMem) => Q r2 μ1) at h
  refine lv_aload_nN hx hb dX11_become_0 rfl (lv_at hl 2 rfl) ?_
  refine lv_ifnullN (tgt := 11) hx hb dX11_become_1 (by decide) ?_
  refine lv_aload_n hx hb dX11_become_11 rfl (lv_at hl 0 rfl) ?_
  refine M_calli hw (MA.up hw.2.2.1.1) (va_runV (own := "LeastreaderModel") (As := []) (rest := []) ⟨hx, hb, hml, hown, ht⟩ (c_X11_refuse μ H.size h) (cwV 0 ht (G_V q_1433 q_1435 q_35 q_56 q_1436) rfl rfl rfl ⟨rfl, hd_101⟩ ⟨Nat.le_of_ble_eq_true rfl, Nat.le_of_ble_eq_true rfl⟩) ⟨MB.blind, M_recv hK hw, MB.pre hK hI hw va_P0 ne0⟩ rfl rfl hl.1 rfl (lv_room (Nat.le_of_ble_eq_true rfl)) dX11_become_12 ⟨show 0 + 0 ≤ 0 by omega, show 0 + 0 ≤ 0 by omega⟩) (fun r2 μ1 H locs h hw => ?_)
  exact hret H locs ls 15 _ _ _ _ _ hw h rfl (show 0 ≤ 0 by omega) (show 0 ≤ 0 by omega) dX11_become_15
def wp_X11_make (μ : TMem) (a1 : Int32) (a2 : Int32) (a3 : Int32) (Q : Int32 → TMem → Prop) : Prop :=
  wp_X11_isOne a1 (fun (r1 : Int32) => ∀ J2 : Int32 → Prop, (∀ (j3 : Int32), (wp_X11_isThrown μ j3 (1 : Int32) (fun (r5 : Int32) (μ4 : TMem) => (r5 = 0 → (∀ J7 : Int32 → Prop, (∀ (j8 : Int32), (wp_X11_found μ4 a1 j8 (fun (r18 : Option AI) => (r18 = none → (wp_X11_become_n μ4 a3 (fun (r15 : Int32) (μ14 : TMem) => Q r15 μ14))) ∧ (∀ (n12 : Nat) (f13 : Nat → Int32), r18 = some (n12, f13) → (wp_X11_become μ4 a3 n12 f13 (fun (r17 : Int32) (μ16 : TMem) => Q r17 μ16))))) → J7 j8) → ((a2 = 0 → (J7 (3 : Int32))) ∧ (¬ a2 = 0 → (J7 (0 : Int32)))))) ∧ (¬ r5 = 0 → (Q (0 : Int32) μ4)))) → J2 j3) → ((r1 = 0 → (J2 (0 : Int32))) ∧ (¬ r1 = 0 → (wp_X11_isOne a3 (fun (r21 : Int32) => (r21 = 0 → (J2 (0 : Int32))) ∧ (¬ r21 = 0 → (J2 (1 : Int32))))))))
set_option maxHeartbeats 4000000 in
set_option maxRecDepth 100000 in
theorem c_X11_make {l : Launch} {D : va_G} {ad : Nat → Nat} {cI cL : ClassId}  (μ : TMem) (sz : Nat) (a1 : Int32) (a2 : Int32) (a3 : Int32)  {Q : Int32 → TMem → Prop} (h : wp_X11_make μ a1 a2 a3 Q) : MMi l yX11_make (.code yX11_make cX11_make 4 (Option.some Jvm.ClassFile.FieldType.int)) 4 41 1685 [.ref (ad 0), .int a1, .int a2, .int a3] D ad cI cL sz μ [] Q := by
  refine M_meti (by decide +kernel) (Nat.le_of_ble_eq_true rfl) ?_
  intro p e s m below meth c Z ls hx hb hml hown ht hK hP0 hI hne hw hret hl
  have hl : lv_has ls 4 [(0, .ref (ad 0)), (1, .int a1), (2, .int a2), (3, .int a3)] := hl
  suffices hh : ∀ (H : Heap) (locs : List Loc), MW D (MR ad cI μ) [] (MA ad s.heap.size) s H locs → W p l e (RA 4 41 1685) s m #[.ref (ad 0), .int a1, .int a2, .int a3] below meth c H locs 0 0 Z (F0 m 0 ls []) from hh _ _ hw
  intro H locs hw
  change wp_X11_isOne a1 (fun (r1 : Int32) => ∀ J2 : Int32 → Prop, (∀ (j3 : Int32), (wp_X11_isThrown μ j3 (1 : Int32) (fun (r5 : Int32) (μ4 : TMem) => (r5 = 0 → (∀ J7 : Int32 → Prop, (∀ (j8 : Int32), (wp_X11_found μ4 a1 j8 (fun (r18 : Option AI) => (r18 = none → (wp_X11_become_n μ4 a3 (fun (r15 : Int32) (μ14 : TMem) => Q r15 μ14))) ∧ (∀ (n12 : Nat) (f13 : Nat → Int32), r18 = some (n12, f13) → (wp_X11_become μ4 a3 n12 f13 (fun (r17 : Int32) (μ16 : TMem) => Q r17 μ16))))) → J7 j8) → ((a2 = 0 → (J7 (3 : Int32))) ∧ (¬ a2 = 0 → (J7 (0 : Int32)))))) ∧ (¬ r5 = 0 → (Q (0 : Int32) μ4)))) → J2 j3) → ((r1 = 0 → (J2 (0 : Int32))) ∧ (¬ r1 = 0 → (wp_X11_isOne a3 (fun (r21 : Int32) => (r21 = 0 → (J2 (0 : Int32))) ∧ (¬ r21 = 0 → (J2 (1 : Int32)))))))) at h
  refine lv_aload_n hx hb dX11_make_0 rfl (lv_at hl 0 rfl) ?_
  refine lv_iload_n hx hb dX11_make_1 rfl (lv_at hl 1 rfl) ?_
  refine P_calli (va_runS (own := "LeastreaderModel") (As := [.int a1]) (rest := [.ref (ad 0)]) ⟨hx, hb, hml, hown, ht⟩ (c_X11_isOne a1 h) (va_cwS 1 ht (G_S q_1346 q_1347 q_56 q_1348) rfl rfl rfl hd_91 ⟨Nat.le_of_ble_eq_true rfl, Nat.le_of_ble_eq_true rfl⟩) ⟨PM_blind, PM_pre⟩ rfl rfl hl.1 rfl (lv_room (Nat.le_of_ble_eq_true rfl)) dX11_make_2 ⟨show 0 + 0 ≤ 41 by omega, show 0 + 0 ≤ 1685 by omega⟩) (fun r1 h => ?_)
  have h := h (fun (j3 : Int32) => ∀ (H : Heap) (locs : List Loc) (ls : Array Slot), MW D (MR ad cI μ) [] (MA ad s.heap.size) s H locs → lv_has ls 4 [(0, .ref (ad 0)), (1, .int a1), (2, .int a2), (3, .int a3)] → W p l e (RA 4 41 1685) s m #[.ref (ad 0), .int a1, .int a2, .int a3] below meth c H locs 0 0 Z (F0 m 20 ls [.int j3, .ref (ad 0)])) (fun j3 h H locs ls hw hl => by
    refine lv_iconst (v := (1 : Int32)) hx hb dX11_make_20 (by decide) ?_
    refine M_calli hw (MA.up hw.2.2.1.1) (va_runV (own := "LeastreaderModel") (As := [.int j3, .int (1 : Int32)]) (rest := []) ⟨hx, hb, hml, hown, ht⟩ (c_X11_isThrown μ H.size j3 (1 : Int32) h) (cwV 2 ht (G_V q_1352 q_1354 q_26 q_56 q_1355) rfl rfl rfl ⟨rfl, hd_92⟩ ⟨Nat.le_of_ble_eq_true rfl, Nat.le_of_ble_eq_true rfl⟩) ⟨MB.blind, M_recv hK hw, MB.pre hK hI hw va_P0 ne0⟩ rfl rfl hl.1 rfl (lv_room (Nat.le_of_ble_eq_true rfl)) dX11_make_21 ⟨show 0 + 0 ≤ 41 by omega, show 0 + 0 ≤ 1685 by omega⟩) (fun r5 μ4 H locs h hw => ?_)
    refine lv_if_eq (tgt := 31) hx hb dX11_make_24 (by decide) (fun c6 => ?_) (fun c6 => ?_)
    · have h := h.1 c6
      refine lv_aload_n hx hb dX11_make_31 rfl (lv_at hl 0 rfl) ?_
      refine lv_iload_n hx hb dX11_make_32 rfl (lv_at hl 3 rfl) ?_
      refine lv_aload_n hx hb dX11_make_33 rfl (lv_at hl 0 rfl) ?_
      refine lv_iload_n hx hb dX11_make_34 rfl (lv_at hl 1 rfl) ?_
      refine lv_iload_n hx hb dX11_make_35 rfl (lv_at hl 2 rfl) ?_
      have h := h (fun (j8 : Int32) => ∀ (H : Heap) (locs : List Loc) (ls : Array Slot), MW D (MR ad cI μ4) [] (MA ad s.heap.size) s H locs → lv_has ls 4 [] → W p l e (RA 4 41 1685) s m #[.ref (ad 0), .int a1, .int a2, .int a3] below meth c H locs 0 0 Z (F0 m 44 ls [.int j8, .int a1, .ref (ad 0), .int a3, .ref (ad 0)])) (fun j8 h H locs ls hw hl => by
        refine M_callA hw (MA.up hw.2.2.1.1) (va_runV (own := "LeastreaderModel") (As := [.int a1, .int j8]) (rest := [.int a3, .ref (ad 0)]) ⟨hx, hb, hml, hown, ht⟩ (c_X11_found μ4 H.size a1 j8 h) (cwV 2 ht (G_V q_1452 q_1454 q_36 q_56 q_1455) rfl rfl rfl ⟨rfl, hd_103⟩ ⟨Nat.le_of_ble_eq_true rfl, Nat.le_of_ble_eq_true rfl⟩) ⟨MB.blind, M_recv hK hw, MB.pre hK hI hw va_P0 ne0⟩ rfl rfl hl.1 rfl (lv_room (Nat.le_of_ble_eq_true rfl)) dX11_make_44 ⟨show 0 + 41 ≤ 41 by omega, show 0 + 1685 ≤ 1685 by omega⟩) (fun μ9 H locs h hw => ?_) (fun q11 n12 f13 μ9 H locs hq11 h hw => ?_)
        · skip
          obtain ⟨e10, h⟩ := h
          rw [e10] at hw
          have h := h.1 rfl
          refine M_calli hw (MA.up hw.2.2.1.1) (va_runV (own := "LeastreaderModel") (As := [.int a3, .null]) (rest := []) ⟨hx, hb, hml, hown, ht⟩ (c_X11_become_n μ4 H.size a3 h) (cwV 2 ht (G_V q_1479 q_1481 q_39 q_56 q_1482) rfl rfl rfl ⟨rfl, hd_104⟩ ⟨Nat.le_of_ble_eq_true rfl, Nat.le_of_ble_eq_true rfl⟩) ⟨MB.blind, M_recv hK hw, MB.pre hK hI hw va_P0 ne0⟩ rfl rfl hl.1 rfl (lv_room (Nat.le_of_ble_eq_true rfl)) dX11_make_47 ⟨show 41 + 0 ≤ 41 by omega, show 1685 + 0 ≤ 1685 by omega⟩) (fun r15 μ14 H locs h hw => ?_)
          exact hret H locs ls 50 _ _ _ _ _ hw h rfl (show 41 ≤ 41 by omega) (show 1685 ≤ 1685 by omega) dX11_make_50
        obtain ⟨e10, h⟩ := h
        rw [e10] at hw
        have h := h.2 _ _ rfl
        have hw : MW D (MR ad cI μ4) [eI cI q11 n12 f13] (MA ad s.heap.size) s H locs := hw
        refine M_calli hw (MA.up hw.2.2.1.1) (va_runV (own := "LeastreaderModel") (As := [.int a3, .ref q11]) (rest := []) ⟨hx, hb, hml, hown, ht⟩ (c_X11_become q11 μ4 H.size a3 n12 f13 h) (cwV 2 ht (G_V q_1479 q_1481 q_39 q_56 q_1482) rfl rfl rfl ⟨rfl, hd_104⟩ ⟨Nat.le_of_ble_eq_true rfl, Nat.le_of_ble_eq_true rfl⟩) ⟨MB.blind, M_recv hK hw, MB.pre hK hI hw (va_Pc2 (hw.n (j := 0) rfl) va_P0) (neC (hw.ne (j := 0) rfl) ne0)⟩ rfl rfl hl.1 rfl (lv_room (Nat.le_of_ble_eq_true rfl)) dX11_make_47 ⟨show 41 + 0 ≤ 41 by omega, show 1685 + 0 ≤ 1685 by omega⟩) (fun r17 μ16 H locs h hw => ?_)
        exact hret H locs ls 50 _ _ _ _ _ hw h rfl (show 41 ≤ 41 by omega) (show 1685 ≤ 1685 by omega) dX11_make_50)
      refine lv_if_eq (tgt := 43) hx hb dX11_make_36 (by decide) (fun c19 => ?_) (fun c19 => ?_)
      · have h := h.1 c19
        refine lv_iconst (v := (3 : Int32)) hx hb dX11_make_43 (by decide) ?_
        exact h H locs ls hw (lv_sub hl [] rfl)
      have h := h.2 c19
      refine lv_iconst (v := (0 : Int32)) hx hb dX11_make_39 (by decide) ?_
      refine lv_goto (tgt := 44) hx hb dX11_make_40 (by decide) ?_
      exact h H locs ls hw (lv_sub hl [] rfl)
    have h := h.2 c6
    refine lv_iconst (v := (0 : Int32)) hx hb dX11_make_27 (by decide) ?_
    refine lv_goto (tgt := 50) hx hb dX11_make_28 (by decide) ?_
    exact hret H locs ls 50 _ _ _ _ _ hw h rfl (show 0 ≤ 41 by omega) (show 0 ≤ 1685 by omega) dX11_make_50)
  refine lv_if_eq (tgt := 19) hx hb dX11_make_5 (by decide) (fun c20 => ?_) (fun c20 => ?_)
  · have h := h.1 c20
    refine lv_iconst (v := (0 : Int32)) hx hb dX11_make_19 (by decide) ?_
    exact h H locs ls hw (lv_sub hl [0, 1, 2, 3] rfl)
  have h := h.2 c20
  refine lv_iload_n hx hb dX11_make_8 rfl (lv_at hl 3 rfl) ?_
  refine P_calli (va_runS (own := "LeastreaderModel") (As := [.int a3]) (rest := [.ref (ad 0)]) ⟨hx, hb, hml, hown, ht⟩ (c_X11_isOne a3 h) (va_cwS 1 ht (G_S q_1346 q_1347 q_56 q_1348) rfl rfl rfl hd_91 ⟨Nat.le_of_ble_eq_true rfl, Nat.le_of_ble_eq_true rfl⟩) ⟨PM_blind, PM_pre⟩ rfl rfl hl.1 rfl (lv_room (Nat.le_of_ble_eq_true rfl)) dX11_make_9 ⟨show 0 + 0 ≤ 41 by omega, show 0 + 0 ≤ 1685 by omega⟩) (fun r21 h => ?_)
  refine lv_if_eq (tgt := 19) hx hb dX11_make_12 (by decide) (fun c22 => ?_) (fun c22 => ?_)
  · have h := h.1 c22
    refine lv_iconst (v := (0 : Int32)) hx hb dX11_make_19 (by decide) ?_
    exact h H locs ls hw (lv_sub hl [0, 1, 2, 3] rfl)
  have h := h.2 c22
  refine lv_iconst (v := (1 : Int32)) hx hb dX11_make_15 (by decide) ?_
  refine lv_goto (tgt := 20) hx hb dX11_make_16 (by decide) ?_
  exact h H locs ls hw (lv_sub hl [0, 1, 2, 3] rfl)
def wp_X11_combine (μ : TMem) (a1 : Int32) (a2 : Int32) (a3 : Int32) (a4 : Int32) (Q : Int32 → TMem → Prop) : Prop :=
  wp_X11_isOne a1 (fun (r1 : Int32) => ∀ J2 : Int32 → Prop, (∀ (j3 : Int32), (wp_X11_isIn a3 (0 : Int32) (3 : Int32) (fun (r4 : Int32) => wp_X11_isThrown μ j3 r4 (fun (r6 : Int32) (μ5 : TMem) => (r6 = 0 → (wp_X11_both μ5 a1 a2 a3 (fun (r29 : Option AI) => (r29 = none → (wp_X11_least_n (fun (r20 : Option AI) => (r20 = none → (wp_X11_become_n μ5 a4 (fun (r17 : Int32) (μ16 : TMem) => Q r17 μ16))) ∧ (∀ (n14 : Nat) (f15 : Nat → Int32), r20 = some (n14, f15) → (wp_X11_become μ5 a4 n14 f15 (fun (r19 : Int32) (μ18 : TMem) => Q r19 μ18)))))) ∧ (∀ (n11 : Nat) (f12 : Nat → Int32), r29 = some (n11, f12) → (wp_X11_least n11 f12 (fun (r28 : Option AI) => (r28 = none → (wp_X11_become_n μ5 a4 (fun (r25 : Int32) (μ24 : TMem) => Q r25 μ24))) ∧ (∀ (n22 : Nat) (f23 : Nat → Int32), r28 = some (n22, f23) → (wp_X11_become μ5 a4 n22 f23 (fun (r27 : Int32) (μ26 : TMem) => Q r27 μ26))))))))) ∧ (¬ r6 = 0 → (Q (0 : Int32) μ5))))) → J2 j3) → ((r1 = 0 → (J2 (0 : Int32))) ∧ (¬ r1 = 0 → (wp_X11_isOne a2 (fun (r31 : Int32) => (r31 = 0 → (J2 (0 : Int32))) ∧ (¬ r31 = 0 → (wp_X11_isOne a4 (fun (r33 : Int32) => (r33 = 0 → (J2 (0 : Int32))) ∧ (¬ r33 = 0 → (J2 (1 : Int32)))))))))))
set_option maxHeartbeats 4000000 in
set_option maxRecDepth 100000 in
theorem c_X11_combine {l : Launch} {D : va_G} {ad : Nat → Nat} {cI cL : ClassId}  (μ : TMem) (sz : Nat) (a1 : Int32) (a2 : Int32) (a3 : Int32) (a4 : Int32)  {Q : Int32 → TMem → Prop} (h : wp_X11_combine μ a1 a2 a3 a4 Q) : MMi l yX11_combine (.code yX11_combine cX11_combine 5 (Option.some Jvm.ClassFile.FieldType.int)) 4 47 2726 [.ref (ad 0), .int a1, .int a2, .int a3, .int a4] D ad cI cL sz μ [] Q := by
  refine M_meti (by decide +kernel) (Nat.le_of_ble_eq_true rfl) ?_
  intro p e s m below meth c Z ls hx hb hml hown ht hK hP0 hI hne hw hret hl
  have hl : lv_has ls 5 [(0, .ref (ad 0)), (1, .int a1), (2, .int a2), (3, .int a3), (4, .int a4)] := hl
  suffices hh : ∀ (H : Heap) (locs : List Loc), MW D (MR ad cI μ) [] (MA ad s.heap.size) s H locs → W p l e (RA 4 47 2726) s m #[.ref (ad 0), .int a1, .int a2, .int a3, .int a4] below meth c H locs 0 0 Z (F0 m 0 ls []) from hh _ _ hw
  intro H locs hw
  change wp_X11_isOne a1 (fun (r1 : Int32) => ∀ J2 : Int32 → Prop, (∀ (j3 : Int32), (wp_X11_isIn a3 (0 : Int32) (3 : Int32) (fun (r4 : Int32) => wp_X11_isThrown μ j3 r4 (fun (r6 : Int32) (μ5 : TMem) => (r6 = 0 → (wp_X11_both μ5 a1 a2 a3 (fun (r29 : Option AI) => (r29 = none → (wp_X11_least_n (fun (r20 : Option AI) => (r20 = none → (wp_X11_become_n μ5 a4 (fun (r17 : Int32) (μ16 : TMem) => Q r17 μ16))) ∧ (∀ (n14 : Nat) (f15 : Nat → Int32), r20 = some (n14, f15) → (wp_X11_become μ5 a4 n14 f15 (fun (r19 : Int32) (μ18 : TMem) => Q r19 μ18)))))) ∧ (∀ (n11 : Nat) (f12 : Nat → Int32), r29 = some (n11, f12) → (wp_X11_least n11 f12 (fun (r28 : Option AI) => (r28 = none → (wp_X11_become_n μ5 a4 (fun (r25 : Int32) (μ24 : TMem) => Q r25 μ24))) ∧ (∀ (n22 : Nat) (f23 : Nat → Int32), r28 = some (n22, f23) → (wp_X11_become μ5 a4 n22 f23 (fun (r27 : Int32) (μ26 : TMem) => Q r27 μ26))))))))) ∧ (¬ r6 = 0 → (Q (0 : Int32) μ5))))) → J2 j3) → ((r1 = 0 → (J2 (0 : Int32))) ∧ (¬ r1 = 0 → (wp_X11_isOne a2 (fun (r31 : Int32) => (r31 = 0 → (J2 (0 : Int32))) ∧ (¬ r31 = 0 → (wp_X11_isOne a4 (fun (r33 : Int32) => (r33 = 0 → (J2 (0 : Int32))) ∧ (¬ r33 = 0 → (J2 (1 : Int32))))))))))) at h
  refine lv_aload_n hx hb dX11_combine_0 rfl (lv_at hl 0 rfl) ?_
  refine lv_iload_n hx hb dX11_combine_1 rfl (lv_at hl 1 rfl) ?_
  refine P_calli (va_runS (own := "LeastreaderModel") (As := [.int a1]) (rest := [.ref (ad 0)]) ⟨hx, hb, hml, hown, ht⟩ (c_X11_isOne a1 h) (va_cwS 1 ht (G_S q_1346 q_1347 q_56 q_1348) rfl rfl rfl hd_91 ⟨Nat.le_of_ble_eq_true rfl, Nat.le_of_ble_eq_true rfl⟩) ⟨PM_blind, PM_pre⟩ rfl rfl hl.1 rfl (lv_room (Nat.le_of_ble_eq_true rfl)) dX11_combine_2 ⟨show 0 + 0 ≤ 47 by omega, show 0 + 0 ≤ 2726 by omega⟩) (fun r1 h => ?_)
  have h := h (fun (j3 : Int32) => ∀ (H : Heap) (locs : List Loc) (ls : Array Slot), MW D (MR ad cI μ) [] (MA ad s.heap.size) s H locs → lv_has ls 5 [(0, .ref (ad 0)), (1, .int a1), (2, .int a2), (3, .int a3), (4, .int a4)] → W p l e (RA 4 47 2726) s m #[.ref (ad 0), .int a1, .int a2, .int a3, .int a4] below meth c H locs 0 0 Z (F0 m 28 ls [.int j3, .ref (ad 0)])) (fun j3 h H locs ls hw hl => by
    refine lv_iload_n hx hb dX11_combine_28 rfl (lv_at hl 3 rfl) ?_
    refine lv_iconst (v := (0 : Int32)) hx hb dX11_combine_29 (by decide) ?_
    refine lv_iconst (v := (3 : Int32)) hx hb dX11_combine_30 (by decide) ?_
    refine P_calli (va_runS (own := "LeastreaderModel") (As := [.int a3, .int (0 : Int32), .int (3 : Int32)]) (rest := [.int j3, .ref (ad 0)]) ⟨hx, hb, hml, hown, ht⟩ (c_X11_isIn a3 (0 : Int32) (3 : Int32) h) (va_cwS 3 ht (G_S q_1349 q_1350 q_56 q_1351) rfl rfl rfl hd_78 ⟨Nat.le_of_ble_eq_true rfl, Nat.le_of_ble_eq_true rfl⟩) ⟨PM_blind, PM_pre⟩ rfl rfl hl.1 rfl (lv_room (Nat.le_of_ble_eq_true rfl)) dX11_combine_31 ⟨show 0 + 0 ≤ 47 by omega, show 0 + 0 ≤ 2726 by omega⟩) (fun r4 h => ?_)
    refine M_calli hw (MA.up hw.2.2.1.1) (va_runV (own := "LeastreaderModel") (As := [.int j3, .int r4]) (rest := []) ⟨hx, hb, hml, hown, ht⟩ (c_X11_isThrown μ H.size j3 r4 h) (cwV 2 ht (G_V q_1352 q_1354 q_26 q_56 q_1355) rfl rfl rfl ⟨rfl, hd_92⟩ ⟨Nat.le_of_ble_eq_true rfl, Nat.le_of_ble_eq_true rfl⟩) ⟨MB.blind, M_recv hK hw, MB.pre hK hI hw va_P0 ne0⟩ rfl rfl hl.1 rfl (lv_room (Nat.le_of_ble_eq_true rfl)) dX11_combine_34 ⟨show 0 + 0 ≤ 47 by omega, show 0 + 0 ≤ 2726 by omega⟩) (fun r6 μ5 H locs h hw => ?_)
    refine lv_if_eq (tgt := 44) hx hb dX11_combine_37 (by decide) (fun c7 => ?_) (fun c7 => ?_)
    · have h := h.1 c7
      refine lv_aload_n hx hb dX11_combine_44 rfl (lv_at hl 0 rfl) ?_
      refine lv_iload hx hb dX11_combine_45 (lv_at hl 4 rfl) ?_
      refine lv_aload_n hx hb dX11_combine_47 rfl (lv_at hl 0 rfl) ?_
      refine lv_iload_n hx hb dX11_combine_48 rfl (lv_at hl 1 rfl) ?_
      refine lv_iload_n hx hb dX11_combine_49 rfl (lv_at hl 2 rfl) ?_
      refine lv_iload_n hx hb dX11_combine_50 rfl (lv_at hl 3 rfl) ?_
      refine M_callA hw (MA.up hw.2.2.1.1) (va_runV (own := "LeastreaderModel") (As := [.int a1, .int a2, .int a3]) (rest := [.int a4, .ref (ad 0)]) ⟨hx, hb, hml, hown, ht⟩ (c_X11_both μ5 H.size a1 a2 a3 h) (cwV 3 ht (G_V q_1487 q_1489 q_40 q_56 q_1490) rfl rfl rfl ⟨rfl, hd_105⟩ ⟨Nat.le_of_ble_eq_true rfl, Nat.le_of_ble_eq_true rfl⟩) ⟨MB.blind, M_recv hK hw, MB.pre hK hI hw va_P0 ne0⟩ rfl rfl hl.1 rfl (lv_room (Nat.le_of_ble_eq_true rfl)) dX11_combine_51 ⟨show 0 + 10 ≤ 47 by omega, show 0 + 1350 ≤ 2726 by omega⟩) (fun μ8 H locs h hw => ?_) (fun q10 n11 f12 μ8 H locs hq10 h hw => ?_)
      · skip
        obtain ⟨e9, h⟩ := h
        rw [e9] at hw
        have h := h.1 rfl
        refine S_callA hw (va_runS (own := "LeastreaderModel") (As := [.null]) (rest := [.int a4, .ref (ad 0)]) ⟨hx, hb, hml, hown, ht⟩ (c_X11_least_n H.size h) (va_cwS 1 ht (G_S q_1470 q_1471 q_56 q_1472) rfl rfl rfl hd_87 ⟨Nat.le_of_ble_eq_true rfl, Nat.le_of_ble_eq_true rfl⟩) ⟨SB.blind, SB.pre hK va_P0⟩ rfl rfl hl.1 rfl (lv_room (Nat.le_of_ble_eq_true rfl)) dX11_combine_54 ⟨show 10 + 0 ≤ 47 by omega, show 1350 + 0 ≤ 2726 by omega⟩) (fun H locs h hw => ?_) (fun q13 n14 f15 H locs hq13 h hw => ?_)
        · skip
          have h := h.1 rfl
          refine M_calli hw (MA.up hw.2.2.1.1) (va_runV (own := "LeastreaderModel") (As := [.int a4, .null]) (rest := []) ⟨hx, hb, hml, hown, ht⟩ (c_X11_become_n μ5 H.size a4 h) (cwV 2 ht (G_V q_1479 q_1481 q_39 q_56 q_1482) rfl rfl rfl ⟨rfl, hd_104⟩ ⟨Nat.le_of_ble_eq_true rfl, Nat.le_of_ble_eq_true rfl⟩) ⟨MB.blind, M_recv hK hw, MB.pre hK hI hw va_P0 ne0⟩ rfl rfl hl.1 rfl (lv_room (Nat.le_of_ble_eq_true rfl)) dX11_combine_57 ⟨show 10 + 0 ≤ 47 by omega, show 1350 + 0 ≤ 2726 by omega⟩) (fun r17 μ16 H locs h hw => ?_)
          exact hret H locs ls 60 _ _ _ _ _ hw h rfl (show 10 ≤ 47 by omega) (show 1350 ≤ 2726 by omega) dX11_combine_60
        have h := h.2 _ _ rfl
        have hw : MW D (MR ad cI μ5) [eI cI q13 n14 f15] (MA ad s.heap.size) s H locs := hw
        refine M_calli hw (MA.up hw.2.2.1.1) (va_runV (own := "LeastreaderModel") (As := [.int a4, .ref q13]) (rest := []) ⟨hx, hb, hml, hown, ht⟩ (c_X11_become q13 μ5 H.size a4 n14 f15 h) (cwV 2 ht (G_V q_1479 q_1481 q_39 q_56 q_1482) rfl rfl rfl ⟨rfl, hd_104⟩ ⟨Nat.le_of_ble_eq_true rfl, Nat.le_of_ble_eq_true rfl⟩) ⟨MB.blind, M_recv hK hw, MB.pre hK hI hw (va_Pc2 (hw.n (j := 0) rfl) va_P0) (neC (hw.ne (j := 0) rfl) ne0)⟩ rfl rfl hl.1 rfl (lv_room (Nat.le_of_ble_eq_true rfl)) dX11_combine_57 ⟨show 10 + 0 ≤ 47 by omega, show 1350 + 0 ≤ 2726 by omega⟩) (fun r19 μ18 H locs h hw => ?_)
        exact hret H locs ls 60 _ _ _ _ _ hw h rfl (show 10 ≤ 47 by omega) (show 1350 ≤ 2726 by omega) dX11_combine_60
      obtain ⟨e9, h⟩ := h
      rw [e9] at hw
      have h := h.2 _ _ rfl
      have hw : MW D (MR ad cI μ5) [eI cI q10 n11 f12] (MA ad s.heap.size) s H locs := hw
      refine S_callA hw (va_runS (own := "LeastreaderModel") (As := [.ref q10]) (rest := [.int a4, .ref (ad 0)]) ⟨hx, hb, hml, hown, ht⟩ (c_X11_least q10 H.size n11 f12 h) (va_cwS 1 ht (G_S q_1470 q_1471 q_56 q_1472) rfl rfl rfl hd_87 ⟨Nat.le_of_ble_eq_true rfl, Nat.le_of_ble_eq_true rfl⟩) ⟨SB.blind, SB.pre hK (va_Pc2 (hw.n (j := 0) rfl) va_P0)⟩ rfl rfl hl.1 rfl (lv_room (Nat.le_of_ble_eq_true rfl)) dX11_combine_54 ⟨show 10 + 37 ≤ 47 by omega, show 1350 + 1376 ≤ 2726 by omega⟩) (fun H locs h hw => ?_) (fun q21 n22 f23 H locs hq21 h hw => ?_)
      · skip
        have h := h.1 rfl
        refine M_calli hw (MA.up hw.2.2.1.1) (va_runV (own := "LeastreaderModel") (As := [.int a4, .null]) (rest := []) ⟨hx, hb, hml, hown, ht⟩ (c_X11_become_n μ5 H.size a4 h) (cwV 2 ht (G_V q_1479 q_1481 q_39 q_56 q_1482) rfl rfl rfl ⟨rfl, hd_104⟩ ⟨Nat.le_of_ble_eq_true rfl, Nat.le_of_ble_eq_true rfl⟩) ⟨MB.blind, M_recv hK hw, MB.pre hK hI hw va_P0 ne0⟩ rfl rfl hl.1 rfl (lv_room (Nat.le_of_ble_eq_true rfl)) dX11_combine_57 ⟨show 47 + 0 ≤ 47 by omega, show 2726 + 0 ≤ 2726 by omega⟩) (fun r25 μ24 H locs h hw => ?_)
        exact hret H locs ls 60 _ _ _ _ _ hw h rfl (show 47 ≤ 47 by omega) (show 2726 ≤ 2726 by omega) dX11_combine_60
      have h := h.2 _ _ rfl
      have hw : MW D (MR ad cI μ5) [eI cI q10 n11 f12, eI cI q21 n22 f23] (MA ad s.heap.size) s H locs := hw
      refine M_calli hw (MA.up hw.2.2.1.1) (va_runV (own := "LeastreaderModel") (As := [.int a4, .ref q21]) (rest := []) ⟨hx, hb, hml, hown, ht⟩ (c_X11_become q21 μ5 H.size a4 n22 f23 h) (cwV 2 ht (G_V q_1479 q_1481 q_39 q_56 q_1482) rfl rfl rfl ⟨rfl, hd_104⟩ ⟨Nat.le_of_ble_eq_true rfl, Nat.le_of_ble_eq_true rfl⟩) ⟨MB.blind, M_recv hK hw, MB.pre hK hI hw (va_Pc2 (hw.n (j := 1) rfl) va_P0) (neC (hw.ne (j := 1) rfl) ne0)⟩ rfl rfl hl.1 rfl (lv_room (Nat.le_of_ble_eq_true rfl)) dX11_combine_57 ⟨show 47 + 0 ≤ 47 by omega, show 2726 + 0 ≤ 2726 by omega⟩) (fun r27 μ26 H locs h hw => ?_)
      exact hret H locs ls 60 _ _ _ _ _ hw h rfl (show 47 ≤ 47 by omega) (show 2726 ≤ 2726 by omega) dX11_combine_60
    have h := h.2 c7
    refine lv_iconst (v := (0 : Int32)) hx hb dX11_combine_40 (by decide) ?_
    refine lv_goto (tgt := 60) hx hb dX11_combine_41 (by decide) ?_
    exact hret H locs ls 60 _ _ _ _ _ hw h rfl (show 0 ≤ 47 by omega) (show 0 ≤ 2726 by omega) dX11_combine_60)
  refine lv_if_eq (tgt := 27) hx hb dX11_combine_5 (by decide) (fun c30 => ?_) (fun c30 => ?_)
  · have h := h.1 c30
    refine lv_iconst (v := (0 : Int32)) hx hb dX11_combine_27 (by decide) ?_
    exact h H locs ls hw (lv_sub hl [0, 1, 2, 3, 4] rfl)
  have h := h.2 c30
  refine lv_iload_n hx hb dX11_combine_8 rfl (lv_at hl 2 rfl) ?_
  refine P_calli (va_runS (own := "LeastreaderModel") (As := [.int a2]) (rest := [.ref (ad 0)]) ⟨hx, hb, hml, hown, ht⟩ (c_X11_isOne a2 h) (va_cwS 1 ht (G_S q_1346 q_1347 q_56 q_1348) rfl rfl rfl hd_91 ⟨Nat.le_of_ble_eq_true rfl, Nat.le_of_ble_eq_true rfl⟩) ⟨PM_blind, PM_pre⟩ rfl rfl hl.1 rfl (lv_room (Nat.le_of_ble_eq_true rfl)) dX11_combine_9 ⟨show 0 + 0 ≤ 47 by omega, show 0 + 0 ≤ 2726 by omega⟩) (fun r31 h => ?_)
  refine lv_if_eq (tgt := 27) hx hb dX11_combine_12 (by decide) (fun c32 => ?_) (fun c32 => ?_)
  · have h := h.1 c32
    refine lv_iconst (v := (0 : Int32)) hx hb dX11_combine_27 (by decide) ?_
    exact h H locs ls hw (lv_sub hl [0, 1, 2, 3, 4] rfl)
  have h := h.2 c32
  refine lv_iload hx hb dX11_combine_15 (lv_at hl 4 rfl) ?_
  refine P_calli (va_runS (own := "LeastreaderModel") (As := [.int a4]) (rest := [.ref (ad 0)]) ⟨hx, hb, hml, hown, ht⟩ (c_X11_isOne a4 h) (va_cwS 1 ht (G_S q_1346 q_1347 q_56 q_1348) rfl rfl rfl hd_91 ⟨Nat.le_of_ble_eq_true rfl, Nat.le_of_ble_eq_true rfl⟩) ⟨PM_blind, PM_pre⟩ rfl rfl hl.1 rfl (lv_room (Nat.le_of_ble_eq_true rfl)) dX11_combine_17 ⟨show 0 + 0 ≤ 47 by omega, show 0 + 0 ≤ 2726 by omega⟩) (fun r33 h => ?_)
  refine lv_if_eq (tgt := 27) hx hb dX11_combine_20 (by decide) (fun c34 => ?_) (fun c34 => ?_)
  · have h := h.1 c34
    refine lv_iconst (v := (0 : Int32)) hx hb dX11_combine_27 (by decide) ?_
    exact h H locs ls hw (lv_sub hl [0, 1, 2, 3, 4] rfl)
  have h := h.2 c34
  refine lv_iconst (v := (1 : Int32)) hx hb dX11_combine_23 (by decide) ?_
  refine lv_goto (tgt := 28) hx hb dX11_combine_24 (by decide) ?_
  exact h H locs ls hw (lv_sub hl [0, 1, 2, 3, 4] rfl)
def wp_X11_tell (μ : TMem) (a1 : Int32) (a2 : Int32) (Q : Int32 → TMem → Prop) : Prop :=
  wp_X11_isOne a1 (fun (r1 : Int32) => wp_X11_isIn a2 (0 : Int32) (4 : Int32) (fun (r2 : Int32) => wp_X11_isThrown μ r1 r2 (fun (r4 : Int32) (μ3 : TMem) => (r4 = 0 → ((¬ a2 = 0 → ((¬ a2 = (1 : Int32) → ((¬ a2 = (2 : Int32) → ((¬ a2 = (3 : Int32) → (wp_X11_isPlain μ3 a1 (fun (r12 : Int32) => (r12 = 0 → (Q (0 : Int32) μ3)) ∧ (¬ r12 = 0 → (Q (1 : Int32) μ3))))) ∧ (a2 = (3 : Int32) → (vp_in a1 (ml 3) ∧ (Q (μ3 3 a1.toNatClampNeg) μ3))))) ∧ (a2 = (2 : Int32) → (vp_in a1 (ml 2) ∧ (Q (μ3 2 a1.toNatClampNeg) μ3))))) ∧ (a2 = (1 : Int32) → (wp_X11_arrowsOf μ3 a1 (fun (r18 : Int32) => Q r18 μ3))))) ∧ (a2 = 0 → (vp_in a1 (ml 1) ∧ (Q (μ3 1 a1.toNatClampNeg) μ3))))) ∧ (¬ r4 = 0 → (Q (0 : Int32) μ3)))))
set_option maxHeartbeats 4000000 in
set_option maxRecDepth 100000 in
theorem c_X11_tell {l : Launch} {D : va_G} {ad : Nat → Nat} {cI cL : ClassId}  (μ : TMem) (sz : Nat) (a1 : Int32) (a2 : Int32)  {Q : Int32 → TMem → Prop} (h : wp_X11_tell μ a1 a2 Q) : MMi l yX11_tell (.code yX11_tell cX11_tell 3 (Option.some Jvm.ClassFile.FieldType.int)) 2 0 0 [.ref (ad 0), .int a1, .int a2] D ad cI cL sz μ [] Q := by
  refine M_meti (by decide +kernel) (Nat.le_of_ble_eq_true rfl) ?_
  intro p e s m below meth c Z ls hx hb hml hown ht hK hP0 hI hne hw hret hl
  have hl : lv_has ls 3 [(0, .ref (ad 0)), (1, .int a1), (2, .int a2)] := hl
  suffices hh : ∀ (H : Heap) (locs : List Loc), MW D (MR ad cI μ) [] (MA ad s.heap.size) s H locs → W p l e (RA 2 0 0) s m #[.ref (ad 0), .int a1, .int a2] below meth c H locs 0 0 Z (F0 m 0 ls []) from hh _ _ hw
  intro H locs hw
  change wp_X11_isOne a1 (fun (r1 : Int32) => wp_X11_isIn a2 (0 : Int32) (4 : Int32) (fun (r2 : Int32) => wp_X11_isThrown μ r1 r2 (fun (r4 : Int32) (μ3 : TMem) => (r4 = 0 → ((¬ a2 = 0 → ((¬ a2 = (1 : Int32) → ((¬ a2 = (2 : Int32) → ((¬ a2 = (3 : Int32) → (wp_X11_isPlain μ3 a1 (fun (r12 : Int32) => (r12 = 0 → (Q (0 : Int32) μ3)) ∧ (¬ r12 = 0 → (Q (1 : Int32) μ3))))) ∧ (a2 = (3 : Int32) → (vp_in a1 (ml 3) ∧ (Q (μ3 3 a1.toNatClampNeg) μ3))))) ∧ (a2 = (2 : Int32) → (vp_in a1 (ml 2) ∧ (Q (μ3 2 a1.toNatClampNeg) μ3))))) ∧ (a2 = (1 : Int32) → (wp_X11_arrowsOf μ3 a1 (fun (r18 : Int32) => Q r18 μ3))))) ∧ (a2 = 0 → (vp_in a1 (ml 1) ∧ (Q (μ3 1 a1.toNatClampNeg) μ3))))) ∧ (¬ r4 = 0 → (Q (0 : Int32) μ3))))) at h
  refine lv_aload_n hx hb dX11_tell_0 rfl (lv_at hl 0 rfl) ?_
  refine lv_iload_n hx hb dX11_tell_1 rfl (lv_at hl 1 rfl) ?_
  refine P_calli (va_runS (own := "LeastreaderModel") (As := [.int a1]) (rest := [.ref (ad 0)]) ⟨hx, hb, hml, hown, ht⟩ (c_X11_isOne a1 h) (va_cwS 1 ht (G_S q_1346 q_1347 q_56 q_1348) rfl rfl rfl hd_91 ⟨Nat.le_of_ble_eq_true rfl, Nat.le_of_ble_eq_true rfl⟩) ⟨PM_blind, PM_pre⟩ rfl rfl hl.1 rfl (lv_room (Nat.le_of_ble_eq_true rfl)) dX11_tell_2 ⟨show 0 + 0 ≤ 0 by omega, show 0 + 0 ≤ 0 by omega⟩) (fun r1 h => ?_)
  refine lv_iload_n hx hb dX11_tell_5 rfl (lv_at hl 2 rfl) ?_
  refine lv_iconst (v := (0 : Int32)) hx hb dX11_tell_6 (by decide) ?_
  refine lv_iconst (v := (4 : Int32)) hx hb dX11_tell_7 (by decide) ?_
  refine P_calli (va_runS (own := "LeastreaderModel") (As := [.int a2, .int (0 : Int32), .int (4 : Int32)]) (rest := [.int r1, .ref (ad 0)]) ⟨hx, hb, hml, hown, ht⟩ (c_X11_isIn a2 (0 : Int32) (4 : Int32) h) (va_cwS 3 ht (G_S q_1349 q_1350 q_56 q_1351) rfl rfl rfl hd_78 ⟨Nat.le_of_ble_eq_true rfl, Nat.le_of_ble_eq_true rfl⟩) ⟨PM_blind, PM_pre⟩ rfl rfl hl.1 rfl (lv_room (Nat.le_of_ble_eq_true rfl)) dX11_tell_8 ⟨show 0 + 0 ≤ 0 by omega, show 0 + 0 ≤ 0 by omega⟩) (fun r2 h => ?_)
  refine M_calli hw (MA.up hw.2.2.1.1) (va_runV (own := "LeastreaderModel") (As := [.int r1, .int r2]) (rest := []) ⟨hx, hb, hml, hown, ht⟩ (c_X11_isThrown μ H.size r1 r2 h) (cwV 2 ht (G_V q_1352 q_1354 q_26 q_56 q_1355) rfl rfl rfl ⟨rfl, hd_92⟩ ⟨Nat.le_of_ble_eq_true rfl, Nat.le_of_ble_eq_true rfl⟩) ⟨MB.blind, M_recv hK hw, MB.pre hK hI hw va_P0 ne0⟩ rfl rfl hl.1 rfl (lv_room (Nat.le_of_ble_eq_true rfl)) dX11_tell_11 ⟨show 0 + 0 ≤ 0 by omega, show 0 + 0 ≤ 0 by omega⟩) (fun r4 μ3 H locs h hw => ?_)
  refine lv_if_eq (tgt := 19) hx hb dX11_tell_14 (by decide) (fun c5 => ?_) (fun c5 => ?_)
  · have h := h.1 c5
    refine lv_iload_n hx hb dX11_tell_19 rfl (lv_at hl 2 rfl) ?_
    refine lv_if_ne (tgt := 32) hx hb dX11_tell_20 (by decide) (fun c6 => ?_) (fun c6 => ?_)
    · have h := h.1 c6
      refine lv_iload_n hx hb dX11_tell_32 rfl (lv_at hl 2 rfl) ?_
      refine lv_iconst (v := (1 : Int32)) hx hb dX11_tell_33 (by decide) ?_
      refine lv_icmp_ne (tgt := 45) hx hb dX11_tell_34 (by decide) (fun c7 => ?_) (fun c7 => ?_)
      · have h := h.1 c7
        refine lv_iload_n hx hb dX11_tell_45 rfl (lv_at hl 2 rfl) ?_
        refine lv_iconst (v := (2 : Int32)) hx hb dX11_tell_46 (by decide) ?_
        refine lv_icmp_ne (tgt := 59) hx hb dX11_tell_47 (by decide) (fun c8 => ?_) (fun c8 => ?_)
        · have h := h.1 c8
          refine lv_iload_n hx hb dX11_tell_59 rfl (lv_at hl 2 rfl) ?_
          refine lv_iconst (v := (3 : Int32)) hx hb dX11_tell_60 (by decide) ?_
          refine lv_icmp_ne (tgt := 73) hx hb dX11_tell_61 (by decide) (fun c9 => ?_) (fun c9 => ?_)
          · have h := h.1 c9
            refine lv_aload_n hx hb dX11_tell_73 rfl (lv_at hl 0 rfl) ?_
            refine lv_iload_n hx hb dX11_tell_74 rfl (lv_at hl 1 rfl) ?_
            refine M_calli hw (MA.up hw.2.2.1.1) (va_runV (own := "LeastreaderModel") (As := [.int a1]) (rest := []) ⟨hx, hb, hml, hown, ht⟩ (c_X11_isPlain μ3 H.size a1 h) (cwV 1 ht (G_V q_1429 q_1431 q_34 q_56 q_1432) rfl rfl rfl ⟨rfl, hd_100⟩ ⟨Nat.le_of_ble_eq_true rfl, Nat.le_of_ble_eq_true rfl⟩) ⟨MB.blind, M_recv hK hw, MB.pre hK hI hw va_P0 ne0⟩ rfl rfl hl.1 rfl (lv_room (Nat.le_of_ble_eq_true rfl)) dX11_tell_75 ⟨show 0 + 0 ≤ 0 by omega, show 0 + 0 ≤ 0 by omega⟩) (fun r12 μ10 H locs h hw => ?_)
            obtain ⟨e11, h⟩ := h
            rw [e11] at hw
            refine lv_if_eq (tgt := 85) hx hb dX11_tell_78 (by decide) (fun c13 => ?_) (fun c13 => ?_)
            · have h := h.1 c13
              refine lv_iconst (v := (0 : Int32)) hx hb dX11_tell_85 (by decide) ?_
              exact hret H locs ls 86 _ _ _ _ _ hw h rfl (show 0 ≤ 0 by omega) (show 0 ≤ 0 by omega) dX11_tell_86
            have h := h.2 c13
            refine lv_iconst (v := (1 : Int32)) hx hb dX11_tell_81 (by decide) ?_
            refine lv_goto (tgt := 86) hx hb dX11_tell_82 (by decide) ?_
            exact hret H locs ls 86 _ _ _ _ _ hw h rfl (show 0 ≤ 0 by omega) (show 0 ≤ 0 by omega) dX11_tell_86
          have h := h.2 c9
          refine lv_aload_n hx hb dX11_tell_64 rfl (lv_at hl 0 rfl) ?_
          refine m_get (i := 2) hx hb ht hown hK hw (by decide) (ht _ q_1315) rfl rfl dX11_tell_65 ?_
          refine lv_iload_n hx hb dX11_tell_68 rfl (lv_at hl 1 rfl) ?_
          obtain ⟨z14, h⟩ := h
          refine m_iald hx hb hK hw (by decide) z14 dX11_tell_69 ?_
          refine lv_goto (tgt := 86) hx hb dX11_tell_70 (by decide) ?_
          exact hret H locs ls 86 _ _ _ _ _ hw h rfl (show 0 ≤ 0 by omega) (show 0 ≤ 0 by omega) dX11_tell_86
        have h := h.2 c8
        refine lv_aload_n hx hb dX11_tell_50 rfl (lv_at hl 0 rfl) ?_
        refine m_get (i := 1) hx hb ht hown hK hw (by decide) (ht _ q_1314) rfl rfl dX11_tell_51 ?_
        refine lv_iload_n hx hb dX11_tell_54 rfl (lv_at hl 1 rfl) ?_
        obtain ⟨z15, h⟩ := h
        refine m_iald hx hb hK hw (by decide) z15 dX11_tell_55 ?_
        refine lv_goto (tgt := 86) hx hb dX11_tell_56 (by decide) ?_
        exact hret H locs ls 86 _ _ _ _ _ hw h rfl (show 0 ≤ 0 by omega) (show 0 ≤ 0 by omega) dX11_tell_86
      have h := h.2 c7
      refine lv_aload_n hx hb dX11_tell_37 rfl (lv_at hl 0 rfl) ?_
      refine lv_iload_n hx hb dX11_tell_38 rfl (lv_at hl 1 rfl) ?_
      refine M_calli hw (MA.up hw.2.2.1.1) (va_runV (own := "LeastreaderModel") (As := [.int a1]) (rest := []) ⟨hx, hb, hml, hown, ht⟩ (c_X11_arrowsOf μ3 H.size a1 h) (cwV 1 ht (G_V q_1356 q_1358 q_27 q_56 q_1359) rfl rfl rfl ⟨rfl, hd_93⟩ ⟨Nat.le_of_ble_eq_true rfl, Nat.le_of_ble_eq_true rfl⟩) ⟨MB.blind, M_recv hK hw, MB.pre hK hI hw va_P0 ne0⟩ rfl rfl hl.1 rfl (lv_room (Nat.le_of_ble_eq_true rfl)) dX11_tell_39 ⟨show 0 + 0 ≤ 0 by omega, show 0 + 0 ≤ 0 by omega⟩) (fun r18 μ16 H locs h hw => ?_)
      obtain ⟨e17, h⟩ := h
      rw [e17] at hw
      refine lv_goto (tgt := 86) hx hb dX11_tell_42 (by decide) ?_
      exact hret H locs ls 86 _ _ _ _ _ hw h rfl (show 0 ≤ 0 by omega) (show 0 ≤ 0 by omega) dX11_tell_86
    have h := h.2 c6
    refine lv_aload_n hx hb dX11_tell_23 rfl (lv_at hl 0 rfl) ?_
    refine m_get (i := 0) hx hb ht hown hK hw (by decide) (ht _ q_1313) rfl rfl dX11_tell_24 ?_
    refine lv_iload_n hx hb dX11_tell_27 rfl (lv_at hl 1 rfl) ?_
    obtain ⟨z19, h⟩ := h
    refine m_iald hx hb hK hw (by decide) z19 dX11_tell_28 ?_
    refine lv_goto (tgt := 86) hx hb dX11_tell_29 (by decide) ?_
    exact hret H locs ls 86 _ _ _ _ _ hw h rfl (show 0 ≤ 0 by omega) (show 0 ≤ 0 by omega) dX11_tell_86
  have h := h.2 c5
  refine lv_iconst (v := (0 : Int32)) hx hb dX11_tell_17 (by decide) ?_
  exact hret H locs ls 18 _ _ _ _ _ hw h rfl (show 0 ≤ 0 by omega) (show 0 ≤ 0 by omega) dX11_tell_18
