section TSX
def TBXS (D : va_G) (ad : Nat → Nat) (cI cM cB : ClassId) (sz : Nat) (μ : TMem) : State → Prop := fun U => TBX D ad cI cM sz μ U ∧ JK D cB U ∧ CN U ∧ ZS (TA ad sz) U U.heap
def XTs (l : Launch) (y : MethodName) (cd : Cond) (h c n : Nat) (as : List Value) (D : va_G) (ad : Nat → Nat) (cI cM cB : ClassId) (sz : Nat) (μ : TMem) (Q : TMem → Prop) (X : String → TMem → Prop) : Prop := vx_Met l y (cd :: W0) (RX h c n) (va_Pc as (TBXS D ad cI cM cB sz μ)) (va_Qq (fun (_ : Option Nat) (u : TMem) => Q u) (TE D ad cI cM) (TA ad sz)) (vx_X (fun _ : TMem => True) (TEX D ad cI cM X) (TA ad sz)) c n (TA ad sz)
variable {p : Program} {l : Launch} {e : Env} {R : Room} {s : State} {m : MethodId} {args : Array Value} {below : List Frame} {meth : Method} {c : Code} {H : Heap} {locs : List Loc} {cells slots : Nat} {Q : State → Prop}
variable {cc : ByteArray} {pc : Nat} {ls : Array Slot} {rest : List Value} {D : va_G} {ad : Nat → Nat} {cI cM cB : ClassId} {μ : TMem}
theorem TBXS.blind {as : List Value} {sz : Nat} : FrameBlind (va_Pc as (TBXS D ad cI cM cB sz μ)) := fun z U g mk q => by
  obtain ⟨q0, q1, q2, q3, q4⟩ := q
  exact ⟨q0, (TBX.blind z U g mk ⟨q0, q1⟩).2, va_K.moved (u := U) (U := U.calling g mk z) (Vm.Alike.refl U.vm) q2, CN.same (u := U) rfl q3, ZS.moved (u := U) (U := U.calling g mk z) (Vm.Alike.refl U.vm) q4⟩
theorem TBXS.pre {as : List Value} (hT : TK D cI cM s) (hN : NW s) (hX : SX ad s) (hJ : JK D cB s) (hC : CN s) (hZ : ZS (TA ad s.heap.size) s s.heap) (hw : TW D ad cI cM s μ H locs) : ∀ U : State, U.heap = H → s.WarmedH U.vm → va_Pc as (TBXS D ad cI cM cB H.size μ) as.toArray U := fun U hU hW => by
  refine ⟨rfl, (TBX.pre (as := as) hT hN hX hw U hU hW).2, va_K.moved hW.alike hJ, hC.warm hW, ?_⟩
  rw [hU]
  exact ((hZ.kept hw.2.2.2.1).moved hW.alike).narrow (TA.up hw.2.2.1)
theorem X_metTs {l : Launch} {y : MethodName} {bytes : ByteArray} {maxL : Nat} {cn : String} {h fc fn : Nat} {as : List Value} {D : va_G} {ad : Nat → Nat} {cI cM cB : ClassId} {sz : Nat} {μ : TMem} {Q : TMem → Prop} {X : String → TMem → Prop} (hy : plainName y.cls = true) (hsl : (lg_sl as).length ≤ maxL)
    (body : ∀ (p : Program) (e : Env) (s : State) (m : MethodId) (below : List Frame) (meth : Method) (c : Code) (Qc : Array Value → State → Outcome → State → Prop) (ls : Array Slot), p.tables.exec = Jvm.exec → c.code = bytes → c.maxLocals = maxL → s.vm.findClass y.cls = some m.cls → (∀ w ∈ W0, w.before as.toArray s = true) → NW s → TK D cI cM s → SX ad s → JK D cB s → CN s → ZS (TA ad s.heap.size) s s.heap → (∀ x ∈ c.exceptionTable.toList, False) → meth.locks = false → TW D ad cI cM s μ s.heap [] →
      (∀ (H : Heap) (locs : List Loc) (ls : Array Slot) (pc cells slots : Nat) (r : Option Nat) (μ1 : TMem), TW D ad cI cM s μ1 H locs → Q μ1 → cells ≤ fc → slots ≤ fn → decode bytes pc = .ok (.areturn, 1) → W p l e (RX h fc fn) s m as.toArray below meth c H locs cells slots (vx_MQ below Qc (vx_X (fun _ : TMem => True) (TEX D ad cI cM X) (TA ad s.heap.size)) as.toArray s fc fn (TA ad s.heap.size)) (F0 m pc ls [va_rf r])) → lv_has ls maxL (lv_args 0 as) →
      W p l e (RX h fc fn) s m as.toArray below meth c s.heap [] 0 0 (vx_MQ below Qc (vx_X (fun _ : TMem => True) (TEX D ad cI cM X) (TA ad s.heap.size)) as.toArray s fc fn (TA ad s.heap.size)) (F0 m 0 ls [])) : XTs l y (.code y bytes maxL (some (.object cn))) h fc fn as D ad cI cM cB sz μ Q X := by
  refine vx_ofW (cc := bytes) (maxL := maxL) (ret := (some (.object cn))) hy rfl ?_
  intro p e s m args below meth c s₁ B hml htab hv
  obtain ⟨rfl, ⟨⟨hsz, hP, hK, hI, hN⟩, hX⟩, hJ, hC, hZ⟩ := hv
  subst hsz
  have hts := atoms_spec B.pre
  have hlocks := B.notSynchronized
  rw [lg_entry_eq]
  refine body p e s m below meth c _ _ B.exec B.bytes hml (findClass_of_methodNamed B.named) (fun w hw => hts w (List.mem_cons_of_mem _ hw)) hN hK hX hJ hC hZ htab hlocks ⟨hP, hI, va_S.rf⟩ (fun H locs ls pc cells slots r μ1 hw hq hc hs hdg => ?_) (lv_entry as hsl)
  exact W.widen hc hs (vx_ret (W.aret B.exec B.bytes B.returns (Or.inl ⟨_, rfl⟩) (by cases r; exact Or.inl rfl; exact Or.inr ⟨_, rfl⟩) (fun t ht9 hW => ⟨⟨r, μ1, rfl, hq, by rw [TE, ht9]; exact hw.1⟩, hw.2.2.F ht9⟩) hw.2.2.2.2 hdg hlocks))
end TSX
theorem dX9_text_0 : decode cX9_text 0 = .ok (.aload_n 0, 1) := by decide +kernel
theorem dX9_text_1 : decode cX9_text 1 = .ok (.iload_n 1, 1) := by decide +kernel
theorem dX9_text_2 : decode cX9_text 2 = .ok (.invokevirtual 69, 3) := by decide +kernel
theorem dX9_text_5 : decode cX9_text 5 = .ok (.astore_n 3, 1) := by decide +kernel
theorem dX9_text_6 : decode cX9_text 6 = .ok (.iload_n 2, 1) := by decide +kernel
theorem dX9_text_7 : decode cX9_text 7 = .ok (.iconst 0, 1) := by decide +kernel
theorem dX9_text_8 : decode cX9_text 8 = .ok (.iconst 3, 1) := by decide +kernel
theorem dX9_text_9 : decode cX9_text 9 = .ok (.invokestatic 73, 3) := by decide +kernel
theorem dX9_text_12 : decode cX9_text 12 = .ok (.aload_n 0, 1) := by decide +kernel
theorem dX9_text_13 : decode cX9_text 13 = .ok (.iload_n 2, 1) := by decide +kernel
theorem dX9_text_14 : decode cX9_text 14 = .ok (.aload_n 3, 1) := by decide +kernel
theorem dX9_text_15 : decode cX9_text 15 = .ok (.aload_n 0, 1) := by decide +kernel
theorem dX9_text_16 : decode cX9_text 16 = .ok (.getfield 66, 3) := by decide +kernel
theorem dX9_text_19 : decode cX9_text 19 = .ok (.invokevirtual 183, 3) := by decide +kernel
theorem dX9_text_22 : decode cX9_text 22 = .ok (.aload_n 0, 1) := by decide +kernel
theorem dX9_text_23 : decode cX9_text 23 = .ok (.getfield 66, 3) := by decide +kernel
theorem dX9_text_26 : decode cX9_text 26 = .ok (.invokevirtual 191, 3) := by decide +kernel
theorem dX9_text_29 : decode cX9_text 29 = .ok (.areturn, 1) := by decide +kernel
theorem dX9_word_0 : decode cX9_word 0 = .ok (.aload_n 0, 1) := by decide +kernel
theorem dX9_word_1 : decode cX9_word 1 = .ok (.iload_n 1, 1) := by decide +kernel
theorem dX9_word_2 : decode cX9_word 2 = .ok (.invokevirtual 69, 3) := by decide +kernel
theorem dX9_word_5 : decode cX9_word 5 = .ok (.astore_n 3, 1) := by decide +kernel
theorem dX9_word_6 : decode cX9_word 6 = .ok (.iload_n 2, 1) := by decide +kernel
theorem dX9_word_7 : decode cX9_word 7 = .ok (.ifCond .ge 13, 3) := by decide +kernel
theorem dX9_word_10 : decode cX9_word 10 = .ok (.new 212, 3) := by decide +kernel
theorem dX9_word_13 : decode cX9_word 13 = .ok (.dup, 1) := by decide +kernel
theorem dX9_word_14 : decode cX9_word 14 = .ok (.ldc 214, 2) := by decide +kernel
theorem dX9_word_16 : decode cX9_word 16 = .ok (.invokespecial 216, 3) := by decide +kernel
theorem dX9_word_19 : decode cX9_word 19 = .ok (.athrow, 1) := by decide +kernel
theorem dX9_word_20 : decode cX9_word 20 = .ok (.aload_n 0, 1) := by decide +kernel
theorem dX9_word_21 : decode cX9_word 21 = .ok (.iconst 0, 1) := by decide +kernel
theorem dX9_word_22 : decode cX9_word 22 = .ok (.aload_n 3, 1) := by decide +kernel
theorem dX9_word_23 : decode cX9_word 23 = .ok (.aload_n 0, 1) := by decide +kernel
theorem dX9_word_24 : decode cX9_word 24 = .ok (.getfield 66, 3) := by decide +kernel
theorem dX9_word_27 : decode cX9_word 27 = .ok (.invokevirtual 183, 3) := by decide +kernel
theorem dX9_word_30 : decode cX9_word 30 = .ok (.aload_n 0, 1) := by decide +kernel
theorem dX9_word_31 : decode cX9_word 31 = .ok (.getfield 49, 3) := by decide +kernel
theorem dX9_word_34 : decode cX9_word 34 = .ok (.aload_n 0, 1) := by decide +kernel
theorem dX9_word_35 : decode cX9_word 35 = .ok (.getfield 66, 3) := by decide +kernel
theorem dX9_word_38 : decode cX9_word 38 = .ok (.invokevirtual 205, 3) := by decide +kernel
theorem dX9_word_41 : decode cX9_word 41 = .ok (.aload_n 0, 1) := by decide +kernel
theorem dX9_word_42 : decode cX9_word 42 = .ok (.getfield 49, 3) := by decide +kernel
theorem dX9_word_45 : decode cX9_word 45 = .ok (.aload_n 0, 1) := by decide +kernel
theorem dX9_word_46 : decode cX9_word 46 = .ok (.getfield 66, 3) := by decide +kernel
theorem dX9_word_49 : decode cX9_word 49 = .ok (.iload_n 2, 1) := by decide +kernel
theorem dX9_word_50 : decode cX9_word 50 = .ok (.invokevirtual 219, 3) := by decide +kernel
theorem dX9_word_53 : decode cX9_word 53 = .ok (.areturn, 1) := by decide +kernel
theorem dX9_apart_0 : decode cX9_apart 0 = .ok (.aload_n 0, 1) := by decide +kernel
theorem dX9_apart_1 : decode cX9_apart 1 = .ok (.iload_n 1, 1) := by decide +kernel
theorem dX9_apart_2 : decode cX9_apart 2 = .ok (.invokevirtual 69, 3) := by decide +kernel
theorem dX9_apart_5 : decode cX9_apart 5 = .ok (.astore_n 3, 1) := by decide +kernel
theorem dX9_apart_6 : decode cX9_apart 6 = .ok (.aload_n 0, 1) := by decide +kernel
theorem dX9_apart_7 : decode cX9_apart 7 = .ok (.iload_n 2, 1) := by decide +kernel
theorem dX9_apart_8 : decode cX9_apart 8 = .ok (.invokevirtual 69, 3) := by decide +kernel
theorem dX9_apart_11 : decode cX9_apart 11 = .ok (.astore 4, 2) := by decide +kernel
theorem dX9_apart_13 : decode cX9_apart 13 = .ok (.aload_n 0, 1) := by decide +kernel
theorem dX9_apart_14 : decode cX9_apart 14 = .ok (.aload_n 3, 1) := by decide +kernel
theorem dX9_apart_15 : decode cX9_apart 15 = .ok (.aload 4, 2) := by decide +kernel
theorem dX9_apart_17 : decode cX9_apart 17 = .ok (.invokevirtual 223, 3) := by decide +kernel
theorem dX9_apart_20 : decode cX9_apart 20 = .ok (.aload_n 0, 1) := by decide +kernel
theorem dX9_apart_21 : decode cX9_apart 21 = .ok (.getfield 42, 3) := by decide +kernel
theorem dX9_apart_24 : decode cX9_apart 24 = .ok (.getfield 227, 3) := by decide +kernel
theorem dX9_apart_27 : decode cX9_apart 27 = .ok (.iconst (-1), 1) := by decide +kernel
theorem dX9_apart_28 : decode cX9_apart 28 = .ok (.if_icmp .ne 8, 3) := by decide +kernel
theorem dX9_apart_31 : decode cX9_apart 31 = .ok (.ldc 233, 2) := by decide +kernel
theorem dX9_apart_33 : decode cX9_apart 33 = .ok (.goto 17, 3) := by decide +kernel
theorem dX9_apart_36 : decode cX9_apart 36 = .ok (.aload_n 0, 1) := by decide +kernel
theorem dX9_apart_37 : decode cX9_apart 37 = .ok (.getfield 42, 3) := by decide +kernel
theorem dX9_apart_40 : decode cX9_apart 40 = .ok (.aload_n 0, 1) := by decide +kernel
theorem dX9_apart_41 : decode cX9_apart 41 = .ok (.getfield 42, 3) := by decide +kernel
theorem dX9_apart_44 : decode cX9_apart 44 = .ok (.getfield 227, 3) := by decide +kernel
theorem dX9_apart_47 : decode cX9_apart 47 = .ok (.invokevirtual 235, 3) := by decide +kernel
theorem dX9_apart_50 : decode cX9_apart 50 = .ok (.areturn, 1) := by decide +kernel
theorem xd_0 : (yX9_machineAt : MethodName).cls ≠ "java/lang/invoke/MethodHandle" ∧ (yX9_machineAt : MethodName).cls ≠ "java/lang/invoke/VarHandle" ∧ (parseMethodDescriptor (yX9_machineAt : MethodName).desc).map (fun d => d.parameters.length) = some 1 := by decide +kernel
theorem xd_1 : (yX9_checkRange : MethodName).cls ≠ "java/lang/invoke/MethodHandle" ∧ (yX9_checkRange : MethodName).cls ≠ "java/lang/invoke/VarHandle" ∧ (parseMethodDescriptor (yX9_checkRange : MethodName).desc).map (fun d => d.parameters.length) = some 3 := by decide +kernel
theorem xd_2 : (yX9_makeOrThrow : MethodName).cls ≠ "java/lang/invoke/MethodHandle" ∧ (yX9_makeOrThrow : MethodName).cls ≠ "java/lang/invoke/VarHandle" ∧ (parseMethodDescriptor (yX9_makeOrThrow : MethodName).desc).map (fun d => d.parameters.length) = some 3 := by decide +kernel
theorem xd_3 : (yX5_describe : MethodName).cls ≠ "java/lang/invoke/MethodHandle" ∧ (yX5_describe : MethodName).cls ≠ "java/lang/invoke/VarHandle" ∧ (parseMethodDescriptor (yX5_describe : MethodName).desc).map (fun d => d.parameters.length) = some 0 := by decide +kernel
theorem xd_4 : (yX8_count : MethodName).cls ≠ "java/lang/invoke/MethodHandle" ∧ (yX8_count : MethodName).cls ≠ "java/lang/invoke/VarHandle" ∧ (parseMethodDescriptor (yX8_count : MethodName).desc).map (fun d => d.parameters.length) = some 1 := by decide +kernel
theorem xd_5 : (yX8_wordAt : MethodName).cls ≠ "java/lang/invoke/MethodHandle" ∧ (yX8_wordAt : MethodName).cls ≠ "java/lang/invoke/VarHandle" ∧ (parseMethodDescriptor (yX8_wordAt : MethodName).desc).map (fun d => d.parameters.length) = some 2 := by decide +kernel
theorem xd_6 : (yX9_meetOrThrow : MethodName).cls ≠ "java/lang/invoke/MethodHandle" ∧ (yX9_meetOrThrow : MethodName).cls ≠ "java/lang/invoke/VarHandle" ∧ (parseMethodDescriptor (yX9_meetOrThrow : MethodName).desc).map (fun d => d.parameters.length) = some 2 := by decide +kernel
theorem xd_7 : (yX4_wordTo : MethodName).cls ≠ "java/lang/invoke/MethodHandle" ∧ (yX4_wordTo : MethodName).cls ≠ "java/lang/invoke/VarHandle" ∧ (parseMethodDescriptor (yX4_wordTo : MethodName).desc).map (fun d => d.parameters.length) = some 1 := by decide +kernel
def wp_X9_text (μ : TMem) (a1 : Int32) (a2 : Int32) (Q : TMem → Prop) (X : String → TMem → Prop) : Prop :=
  wp_X9_machineAt μ a1 (fun (k2 : Nat) (μ1 : TMem) => wp_X9_checkRange μ1 a2 (0 : Int32) (3 : Int32) (fun (μ3 : TMem) => wp_X9_makeOrThrow k2 57 μ3 a2 (fun (μ4 : TMem) => (μ4 57 1).toInt ≤ 99 ∧ (Q μ4)) X) X) X
set_option maxHeartbeats 4000000 in
set_option maxRecDepth 100000 in
theorem c_X9_text {l : Launch} (hst : l.stackTraces = false) {D : va_G} {ad : Nat → Nat} {cI cM cB : ClassId}  (μ : TMem) (sz : Nat) (a1 : Int32) (a2 : Int32) {Q : TMem → Prop} {X : String → TMem → Prop} (h : wp_X9_text μ a1 a2 Q X) : XTs l yX9_text (.code yX9_text cX9_text 4 (Option.some (Jvm.ClassFile.FieldType.object "java/lang/String"))) 6 503 20018 [.ref (ad 0), .int a1, .int a2] D ad cI cM cB sz μ Q X := by
  refine X_metTs (by decide +kernel) (Nat.le_of_ble_eq_true rfl) ?_
  intro p e s m below meth c Qc ls hx hb hml hown ht hN hK hX hJ hC hZ htab hlocks hw hret hl
  have hl : lv_has ls 4 [(0, .ref (ad 0)), (1, .int a1), (2, .int a2)] := hl
  suffices hh : ∀ (H : Heap) (locs : List Loc), TW D ad cI cM s μ H locs → W p l e (RX 6 503 20018) s m #[.ref (ad 0), .int a1, .int a2] below meth c H locs 0 0 (vx_MQ below Qc (vx_X (fun _ : TMem => True) (TEX D ad cI cM X) (TA ad s.heap.size)) #[.ref (ad 0), .int a1, .int a2] s 503 20018 (TA ad s.heap.size)) (F0 m 0 ls []) from hh _ _ hw
  intro H locs hw
  change wp_X9_machineAt μ a1 (fun (k2 : Nat) (μ1 : TMem) => wp_X9_checkRange μ1 a2 (0 : Int32) (3 : Int32) (fun (μ3 : TMem) => wp_X9_makeOrThrow k2 57 μ3 a2 (fun (μ4 : TMem) => (μ4 57 1).toInt ≤ 99 ∧ (Q μ4)) X) X) X at h
  refine lv_aload_n hx hb dX9_text_0 rfl (lv_at hl 0 rfl) ?_
  refine lv_iload_n hx hb dX9_text_1 rfl (lv_at hl 1 rfl) ?_
  refine X_callo hw htab hlocks (c1 := 1) (n1 := 6) rfl rfl (Nat.le_of_ble_eq_true rfl) (Nat.le_of_ble_eq_true rfl) (vx_runV (own := "Leastreader") (As := [.int a1]) (rest := []) ⟨hx, hb, hml, hown, ht⟩ (c_X9_machineAt hst μ H.size a1 h) (cwV 1 ht (G_V q_314 q_316 q_0 q_46 q_317) rfl rfl rfl ⟨rfl, xd_0⟩ ⟨Nat.le_of_ble_eq_true rfl, Nat.le_of_ble_eq_true rfl⟩) ⟨TBX.blind, (T_recv hK hw (kd_of rfl (by decide)) (ent_8 rfl) cl_8), TBX.pre hK hN hX hw⟩ rfl rfl hl.1 rfl (lv_room (Nat.le_of_ble_eq_true rfl)) dX9_text_2 ⟨Nat.le_of_ble_eq_true rfl, Nat.le_of_ble_eq_true rfl⟩) (fun k2 μ1 H locs hk2 h hw => ?_)
  refine lv_astore_n (lv' := [(3, .ref (ad k2)), (0, .ref (ad 0)), (1, .int a1), (2, .int a2)]) hx hb dX9_text_5 rfl hl (by decide) rfl (fun ls hl => ?_)
  refine lv_iload_n hx hb dX9_text_6 rfl (lv_at hl 3 rfl) ?_
  refine lv_iconst (v := (0 : Int32)) hx hb dX9_text_7 (by decide) ?_
  refine lv_iconst (v := (3 : Int32)) hx hb dX9_text_8 (by decide) ?_
  refine X_callv hw htab hlocks (c1 := 2) (n1 := 12) rfl rfl (Nat.le_of_ble_eq_true rfl) (Nat.le_of_ble_eq_true rfl) (vx_runS (own := "Leastreader") (As := [.int a2, .int (0 : Int32), .int (3 : Int32)]) (rest := []) ⟨hx, hb, hml, hown, ht⟩ (c_X9_checkRange hst μ1 H.size a2 (0 : Int32) (3 : Int32) h) (va_cwS 3 ht (G_S q_597 q_598 q_46 q_599) rfl rfl rfl xd_1 ⟨Nat.le_of_ble_eq_true rfl, Nat.le_of_ble_eq_true rfl⟩) ⟨TBX.blind, TBX.pre hK hN hX hw⟩ rfl rfl hl.1 rfl (lv_room (Nat.le_of_ble_eq_true rfl)) dX9_text_9 ⟨Nat.le_of_ble_eq_true rfl, Nat.le_of_ble_eq_true rfl⟩) (fun μ3 H locs h hw => ?_)
  refine lv_aload_n hx hb dX9_text_12 rfl (lv_at hl 1 rfl) ?_
  refine lv_iload_n hx hb dX9_text_13 rfl (lv_at hl 3 rfl) ?_
  refine lv_aload_n hx hb dX9_text_14 rfl (lv_at hl 0 rfl) ?_
  refine lv_aload_n hx hb dX9_text_15 rfl (lv_at hl 1 rfl) ?_
  refine gf_X9_66 hx hb ht hown hK hw rfl dX9_text_16 ?_
  refine X_callv hw htab hlocks (c1 := 3) (n1 := 18) rfl rfl (Nat.le_of_ble_eq_true rfl) (Nat.le_of_ble_eq_true rfl) (vx_runV (own := "Leastreader") (As := [.int a2, .ref (ad k2), .ref (ad 57)]) (rest := []) ⟨hx, hb, hml, hown, ht⟩ (c_X9_makeOrThrow hst k2 hk2 57 rfl μ3 H.size a2 h) (cwV 3 ht (G_V q_854 q_856 q_21 q_46 q_857) rfl rfl rfl ⟨rfl, xd_2⟩ ⟨Nat.le_of_ble_eq_true rfl, Nat.le_of_ble_eq_true rfl⟩) ⟨TBX.blind, (T_recv hK hw (kd_of rfl (by decide)) (ent_8 rfl) cl_8), TBX.pre hK hN hX hw⟩ rfl rfl hl.1 rfl (lv_room (Nat.le_of_ble_eq_true rfl)) dX9_text_19 ⟨Nat.le_of_ble_eq_true rfl, Nat.le_of_ble_eq_true rfl⟩) (fun μ4 H locs h hw => ?_)
  refine lv_aload_n hx hb dX9_text_22 rfl (lv_at hl 1 rfl) ?_
  refine gf_X9_66 hx hb ht hown hK hw rfl dX9_text_23 ?_
  obtain ⟨z5, h⟩ := h
  refine TS_callr hw (va_runV (own := "Leastreader") (As := []) (rest := []) ⟨hx, hb, hml, hown, ht⟩ (c_X5_describe 57 rfl μ4 H.size  z5) (cwV 0 ht (G_V q_888 q_889 q_890 q_53 q_891) rfl rfl rfl ⟨rfl, xd_3⟩ ⟨Nat.le_of_ble_eq_true rfl, Nat.le_of_ble_eq_true rfl⟩) ⟨TBS.blind, (T_recv hK hw (kd_of rfl (by decide)) (ent_5 rfl) cl_5), TBS.pre hK hN hJ hC hZ hX.2.2.2 hw⟩ rfl rfl hl.1 rfl (lv_room (Nat.le_of_ble_eq_true rfl)) dX9_text_26 ⟨Nat.le_of_ble_eq_true rfl, Nat.le_of_ble_eq_true rfl⟩) (fun ra6 H locs hw => ?_)
  exact hret H locs ls 29 503 20018 (some ra6) _ hw h (Nat.le_of_ble_eq_true rfl) (Nat.le_of_ble_eq_true rfl) dX9_text_29

def wp_X9_word (μ : TMem) (a1 : Int32) (a2 : Int32) (Q : TMem → Prop) (X : String → TMem → Prop) : Prop :=
  wp_X9_machineAt μ a1 (fun (k2 : Nat) (μ1 : TMem) => (0 ≤ a2 → (wp_X9_makeOrThrow k2 57 μ1 (0 : Int32) (fun (μ4 : TMem) => wp_X8_count 57 μ4 (fun (μ5 : TMem) => Q μ5)) X)) ∧ (¬ 0 ≤ a2 → (X "java/lang/IllegalArgumentException" μ1))) X
set_option maxHeartbeats 4000000 in
set_option maxRecDepth 100000 in
theorem c_X9_word {l : Launch} (hst : l.stackTraces = false) {D : va_G} {ad : Nat → Nat} {cI cM cB : ClassId}  (μ : TMem) (sz : Nat) (a1 : Int32) (a2 : Int32) {Q : TMem → Prop} {X : String → TMem → Prop} (h : wp_X9_word μ a1 a2 Q X) : XTs l yX9_word (.code yX9_word cX9_word 4 (Option.some (Jvm.ClassFile.FieldType.object "java/lang/String"))) 6 504 20019 [.ref (ad 0), .int a1, .int a2] D ad cI cM cB sz μ Q X := by
  refine X_metTs (by decide +kernel) (Nat.le_of_ble_eq_true rfl) ?_
  intro p e s m below meth c Qc ls hx hb hml hown ht hN hK hX hJ hC hZ htab hlocks hw hret hl
  have hl : lv_has ls 4 [(0, .ref (ad 0)), (1, .int a1), (2, .int a2)] := hl
  suffices hh : ∀ (H : Heap) (locs : List Loc), TW D ad cI cM s μ H locs → W p l e (RX 6 504 20019) s m #[.ref (ad 0), .int a1, .int a2] below meth c H locs 0 0 (vx_MQ below Qc (vx_X (fun _ : TMem => True) (TEX D ad cI cM X) (TA ad s.heap.size)) #[.ref (ad 0), .int a1, .int a2] s 504 20019 (TA ad s.heap.size)) (F0 m 0 ls []) from hh _ _ hw
  intro H locs hw
  change wp_X9_machineAt μ a1 (fun (k2 : Nat) (μ1 : TMem) => (0 ≤ a2 → (wp_X9_makeOrThrow k2 57 μ1 (0 : Int32) (fun (μ4 : TMem) => wp_X8_count 57 μ4 (fun (μ5 : TMem) => Q μ5)) X)) ∧ (¬ 0 ≤ a2 → (X "java/lang/IllegalArgumentException" μ1))) X at h
  refine lv_aload_n hx hb dX9_word_0 rfl (lv_at hl 0 rfl) ?_
  refine lv_iload_n hx hb dX9_word_1 rfl (lv_at hl 1 rfl) ?_
  refine X_callo hw htab hlocks (c1 := 1) (n1 := 6) rfl rfl (Nat.le_of_ble_eq_true rfl) (Nat.le_of_ble_eq_true rfl) (vx_runV (own := "Leastreader") (As := [.int a1]) (rest := []) ⟨hx, hb, hml, hown, ht⟩ (c_X9_machineAt hst μ H.size a1 h) (cwV 1 ht (G_V q_314 q_316 q_0 q_46 q_317) rfl rfl rfl ⟨rfl, xd_0⟩ ⟨Nat.le_of_ble_eq_true rfl, Nat.le_of_ble_eq_true rfl⟩) ⟨TBX.blind, (T_recv hK hw (kd_of rfl (by decide)) (ent_8 rfl) cl_8), TBX.pre hK hN hX hw⟩ rfl rfl hl.1 rfl (lv_room (Nat.le_of_ble_eq_true rfl)) dX9_word_2 ⟨Nat.le_of_ble_eq_true rfl, Nat.le_of_ble_eq_true rfl⟩) (fun k2 μ1 H locs hk2 h hw => ?_)
  refine lv_astore_n (lv' := [(3, .ref (ad k2)), (0, .ref (ad 0)), (1, .int a1), (2, .int a2)]) hx hb dX9_word_5 rfl hl (by decide) rfl (fun ls hl => ?_)
  refine lv_iload_n hx hb dX9_word_6 rfl (lv_at hl 3 rfl) ?_
  refine lv_if_ge (tgt := 20) hx hb dX9_word_7 (by decide) (fun c3 => ?_) (fun c3 => ?_)
  · have h := h.1 c3
    refine lv_aload_n hx hb dX9_word_20 rfl (lv_at hl 1 rfl) ?_
    refine lv_iconst (v := (0 : Int32)) hx hb dX9_word_21 (by decide) ?_
    refine lv_aload_n hx hb dX9_word_22 rfl (lv_at hl 0 rfl) ?_
    refine lv_aload_n hx hb dX9_word_23 rfl (lv_at hl 1 rfl) ?_
    refine gf_X9_66 hx hb ht hown hK hw rfl dX9_word_24 ?_
    refine X_callv hw htab hlocks (c1 := 2) (n1 := 12) rfl rfl (Nat.le_of_ble_eq_true rfl) (Nat.le_of_ble_eq_true rfl) (vx_runV (own := "Leastreader") (As := [.int (0 : Int32), .ref (ad k2), .ref (ad 57)]) (rest := []) ⟨hx, hb, hml, hown, ht⟩ (c_X9_makeOrThrow hst k2 hk2 57 rfl μ1 H.size (0 : Int32) h) (cwV 3 ht (G_V q_854 q_856 q_21 q_46 q_857) rfl rfl rfl ⟨rfl, xd_2⟩ ⟨Nat.le_of_ble_eq_true rfl, Nat.le_of_ble_eq_true rfl⟩) ⟨TBX.blind, (T_recv hK hw (kd_of rfl (by decide)) (ent_8 rfl) cl_8), TBX.pre hK hN hX hw⟩ rfl rfl hl.1 rfl (lv_room (Nat.le_of_ble_eq_true rfl)) dX9_word_27 ⟨Nat.le_of_ble_eq_true rfl, Nat.le_of_ble_eq_true rfl⟩) (fun μ4 H locs h hw => ?_)
    refine lv_aload_n hx hb dX9_word_30 rfl (lv_at hl 1 rfl) ?_
    refine gf_X9_49 hx hb ht hown hK hw rfl dX9_word_31 ?_
    refine lv_aload_n hx hb dX9_word_34 rfl (lv_at hl 1 rfl) ?_
    refine gf_X9_66 hx hb ht hown hK hw rfl dX9_word_35 ?_
    refine T_callv hw (va_runV (own := "Leastreader") (As := [.ref (ad 57)]) (rest := []) ⟨hx, hb, hml, hown, ht⟩ (c_X8_count 57 rfl μ4 H.size h) (cwV 1 ht (G_V q_1186 q_1187 q_1188 q_55 q_1189) rfl rfl rfl ⟨rfl, xd_4⟩ ⟨Nat.le_of_ble_eq_true rfl, Nat.le_of_ble_eq_true rfl⟩) ⟨TB.blind, (T_recv hK hw (kd_of rfl (by decide)) (ent_7 rfl) cl_7), TB.pre hK hN hw⟩ rfl rfl hl.1 rfl (lv_room (Nat.le_of_ble_eq_true rfl)) dX9_word_38 ⟨Nat.le_of_ble_eq_true rfl, Nat.le_of_ble_eq_true rfl⟩) (fun μ5 H locs h hw => ?_)
    refine lv_aload_n hx hb dX9_word_41 rfl (lv_at hl 1 rfl) ?_
    refine gf_X9_49 hx hb ht hown hK hw rfl dX9_word_42 ?_
    refine lv_aload_n hx hb dX9_word_45 rfl (lv_at hl 1 rfl) ?_
    refine gf_X9_66 hx hb ht hown hK hw rfl dX9_word_46 ?_
    refine lv_iload_n hx hb dX9_word_49 rfl (lv_at hl 3 rfl) ?_
    refine TS_callr hw (va_runV (own := "Leastreader") (As := [.ref (ad 57), .int a2]) (rest := []) ⟨hx, hb, hml, hown, ht⟩ (c_X8_wordAt 57 rfl μ5 H.size a2 ) (cwV 2 ht (G_V q_1211 q_1212 q_1213 q_55 q_1214) rfl rfl rfl ⟨rfl, xd_5⟩ ⟨Nat.le_of_ble_eq_true rfl, Nat.le_of_ble_eq_true rfl⟩) ⟨TBS.blind, (T_recv hK hw (kd_of rfl (by decide)) (ent_7 rfl) cl_7), TBS.pre hK hN hJ hC hZ hX.2.2.2 hw⟩ rfl rfl hl.1 rfl (lv_room (Nat.le_of_ble_eq_true rfl)) dX9_word_50 ⟨Nat.le_of_ble_eq_true rfl, Nat.le_of_ble_eq_true rfl⟩) (fun ra6 H locs hw => ?_)
    exact hret H locs ls 53 503 20013 (some ra6) _ hw h (Nat.le_of_ble_eq_true rfl) (Nat.le_of_ble_eq_true rfl) dX9_word_53
  have h := h.2 c3
  exact X_throw (R := RX 6 504 20019) (cells := 1) (slots := 6) (fc := 504) (fn := 20019) (cls := "java/lang/IllegalArgumentException") hx hb hst (hl.1.trans hml.symm) hown (by decide +kernel) (ht _ q_600) (ht _ q_62) (sr_RX9_214 hX.2.2.2) (hat_1 ht hX.2.2.1) hgd_1 hX hw htab hlocks dX9_word_10 dX9_word_13 dX9_word_14 dX9_word_16 dX9_word_19 (Nat.le_of_ble_eq_true rfl) (Nat.le_of_ble_eq_true rfl) (Nat.le_of_ble_eq_true rfl) (Nat.le_of_ble_eq_true rfl) (Nat.le_of_ble_eq_true rfl) (Nat.le_of_ble_eq_true rfl) h

def wp_X9_apart (μ : TMem) (a1 : Int32) (a2 : Int32) (Q : TMem → Prop) (X : String → TMem → Prop) : Prop :=
  wp_X9_machineAt μ a1 (fun (k2 : Nat) (μ1 : TMem) => wp_X9_machineAt μ1 a2 (fun (k4 : Nat) (μ3 : TMem) => wp_X9_meetOrThrow k2 k4 μ3 (fun (μ5 : TMem) => (¬ (μ5 35 9) = (-1 : Int32) → (GB μ5 ∧ (Q μ5))) ∧ ((μ5 35 9) = (-1 : Int32) → (Q μ5))) X) X) X
set_option maxHeartbeats 4000000 in
set_option maxRecDepth 100000 in
theorem c_X9_apart {l : Launch} (hst : l.stackTraces = false) {D : va_G} {ad : Nat → Nat} {cI cM cB : ClassId}  (μ : TMem) (sz : Nat) (a1 : Int32) (a2 : Int32) {Q : TMem → Prop} {X : String → TMem → Prop} (h : wp_X9_apart μ a1 a2 Q X) : XTs l yX9_apart (.code yX9_apart cX9_apart 5 (Option.some (Jvm.ClassFile.FieldType.object "java/lang/String"))) 6 503 20018 [.ref (ad 0), .int a1, .int a2] D ad cI cM cB sz μ Q X := by
  refine X_metTs (by decide +kernel) (Nat.le_of_ble_eq_true rfl) ?_
  intro p e s m below meth c Qc ls hx hb hml hown ht hN hK hX hJ hC hZ htab hlocks hw hret hl
  have hl : lv_has ls 5 [(0, .ref (ad 0)), (1, .int a1), (2, .int a2)] := hl
  suffices hh : ∀ (H : Heap) (locs : List Loc), TW D ad cI cM s μ H locs → W p l e (RX 6 503 20018) s m #[.ref (ad 0), .int a1, .int a2] below meth c H locs 0 0 (vx_MQ below Qc (vx_X (fun _ : TMem => True) (TEX D ad cI cM X) (TA ad s.heap.size)) #[.ref (ad 0), .int a1, .int a2] s 503 20018 (TA ad s.heap.size)) (F0 m 0 ls []) from hh _ _ hw
  intro H locs hw
  change wp_X9_machineAt μ a1 (fun (k2 : Nat) (μ1 : TMem) => wp_X9_machineAt μ1 a2 (fun (k4 : Nat) (μ3 : TMem) => wp_X9_meetOrThrow k2 k4 μ3 (fun (μ5 : TMem) => (¬ (μ5 35 9) = (-1 : Int32) → (GB μ5 ∧ (Q μ5))) ∧ ((μ5 35 9) = (-1 : Int32) → (Q μ5))) X) X) X at h
  refine lv_aload_n hx hb dX9_apart_0 rfl (lv_at hl 0 rfl) ?_
  refine lv_iload_n hx hb dX9_apart_1 rfl (lv_at hl 1 rfl) ?_
  refine X_callo hw htab hlocks (c1 := 1) (n1 := 6) rfl rfl (Nat.le_of_ble_eq_true rfl) (Nat.le_of_ble_eq_true rfl) (vx_runV (own := "Leastreader") (As := [.int a1]) (rest := []) ⟨hx, hb, hml, hown, ht⟩ (c_X9_machineAt hst μ H.size a1 h) (cwV 1 ht (G_V q_314 q_316 q_0 q_46 q_317) rfl rfl rfl ⟨rfl, xd_0⟩ ⟨Nat.le_of_ble_eq_true rfl, Nat.le_of_ble_eq_true rfl⟩) ⟨TBX.blind, (T_recv hK hw (kd_of rfl (by decide)) (ent_8 rfl) cl_8), TBX.pre hK hN hX hw⟩ rfl rfl hl.1 rfl (lv_room (Nat.le_of_ble_eq_true rfl)) dX9_apart_2 ⟨Nat.le_of_ble_eq_true rfl, Nat.le_of_ble_eq_true rfl⟩) (fun k2 μ1 H locs hk2 h hw => ?_)
  refine lv_astore_n (lv' := [(3, .ref (ad k2)), (0, .ref (ad 0)), (1, .int a1), (2, .int a2)]) hx hb dX9_apart_5 rfl hl (by decide) rfl (fun ls hl => ?_)
  refine lv_aload_n hx hb dX9_apart_6 rfl (lv_at hl 1 rfl) ?_
  refine lv_iload_n hx hb dX9_apart_7 rfl (lv_at hl 3 rfl) ?_
  refine X_callo hw htab hlocks (c1 := 2) (n1 := 12) rfl rfl (Nat.le_of_ble_eq_true rfl) (Nat.le_of_ble_eq_true rfl) (vx_runV (own := "Leastreader") (As := [.int a2]) (rest := []) ⟨hx, hb, hml, hown, ht⟩ (c_X9_machineAt hst μ1 H.size a2 h) (cwV 1 ht (G_V q_314 q_316 q_0 q_46 q_317) rfl rfl rfl ⟨rfl, xd_0⟩ ⟨Nat.le_of_ble_eq_true rfl, Nat.le_of_ble_eq_true rfl⟩) ⟨TBX.blind, (T_recv hK hw (kd_of rfl (by decide)) (ent_8 rfl) cl_8), TBX.pre hK hN hX hw⟩ rfl rfl hl.1 rfl (lv_room (Nat.le_of_ble_eq_true rfl)) dX9_apart_8 ⟨Nat.le_of_ble_eq_true rfl, Nat.le_of_ble_eq_true rfl⟩) (fun k4 μ3 H locs hk4 h hw => ?_)
  refine lv_astore (lv' := [(4, .ref (ad k4)), (3, .ref (ad k2)), (0, .ref (ad 0)), (1, .int a1), (2, .int a2)]) hx hb dX9_apart_11 hl (by decide) rfl (fun ls hl => ?_)
  refine lv_aload_n hx hb dX9_apart_13 rfl (lv_at hl 2 rfl) ?_
  refine lv_aload_n hx hb dX9_apart_14 rfl (lv_at hl 1 rfl) ?_
  refine lv_aload hx hb dX9_apart_15 (lv_at hl 0 rfl) ?_
  refine X_callv hw htab hlocks (c1 := 3) (n1 := 18) rfl rfl (Nat.le_of_ble_eq_true rfl) (Nat.le_of_ble_eq_true rfl) (vx_runV (own := "Leastreader") (As := [.ref (ad k2), .ref (ad k4)]) (rest := []) ⟨hx, hb, hml, hown, ht⟩ (c_X9_meetOrThrow hst k2 hk2 k4 hk4 μ3 H.size h) (cwV 2 ht (G_V q_1234 q_1236 q_25 q_46 q_1237) rfl rfl rfl ⟨rfl, xd_6⟩ ⟨Nat.le_of_ble_eq_true rfl, Nat.le_of_ble_eq_true rfl⟩) ⟨TBX.blind, (T_recv hK hw (kd_of rfl (by decide)) (ent_8 rfl) cl_8), TBX.pre hK hN hX hw⟩ rfl rfl hl.1 rfl (lv_room (Nat.le_of_ble_eq_true rfl)) dX9_apart_17 ⟨Nat.le_of_ble_eq_true rfl, Nat.le_of_ble_eq_true rfl⟩) (fun μ5 H locs h hw => ?_)
  refine lv_aload_n hx hb dX9_apart_20 rfl (lv_at hl 2 rfl) ?_
  refine gf_X9_42 hx hb ht hown hK hw rfl dX9_apart_21 ?_
  refine gf_X9_227 hx hb ht hN hown hK hw rfl dX9_apart_24 ?_
  refine lv_iconst (v := (-1 : Int32)) hx hb dX9_apart_27 (by decide) ?_
  refine lv_icmp_ne (tgt := 36) hx hb dX9_apart_28 (by decide) (fun c6 => ?_) (fun c6 => ?_)
  · have h := h.1 c6
    refine lv_aload_n hx hb dX9_apart_36 rfl (lv_at hl 2 rfl) ?_
    refine gf_X9_42 hx hb ht hown hK hw rfl dX9_apart_37 ?_
    refine lv_aload_n hx hb dX9_apart_40 rfl (lv_at hl 2 rfl) ?_
    refine gf_X9_42 hx hb ht hown hK hw rfl dX9_apart_41 ?_
    refine gf_X9_227 hx hb ht hN hown hK hw rfl dX9_apart_44 ?_
    obtain ⟨z7, h⟩ := h
    refine TS_callr hw (va_runV (own := "Leastreader") (As := [.int (μ5 35 9)]) (rest := []) ⟨hx, hb, hml, hown, ht⟩ (c_X4_wordTo  μ5 H.size (μ5 35 9) z7) (cwV 1 ht (G_V q_1246 q_1247 q_1248 q_54 q_1249) rfl rfl rfl ⟨rfl, xd_7⟩ ⟨Nat.le_of_ble_eq_true rfl, Nat.le_of_ble_eq_true rfl⟩) ⟨TBS.blind, (T_recv hK hw (kd_of rfl (by decide)) (ent_4 rfl) cl_4), TBS.pre hK hN hJ hC hZ hX.2.2.2 hw⟩ rfl rfl hl.1 rfl (lv_room (Nat.le_of_ble_eq_true rfl)) dX9_apart_47 ⟨Nat.le_of_ble_eq_true rfl, Nat.le_of_ble_eq_true rfl⟩) (fun ra8 H locs hw => ?_)
    exact hret H locs ls 50 503 20018 (some ra8) _ hw h (Nat.le_of_ble_eq_true rfl) (Nat.le_of_ble_eq_true rfl) dX9_apart_50
  have h := h.2 c6
  obtain ⟨sa, hsa⟩ := sr_RX9_233 hX.2.2.2
  refine va_ldcS hx hb hown hsa dX9_apart_31 ?_
  refine lv_goto (tgt := 50) hx hb dX9_apart_33 (by decide) ?_
  exact hret H locs ls 50 3 18 (some sa) _ hw h (Nat.le_of_ble_eq_true rfl) (Nat.le_of_ble_eq_true rfl) dX9_apart_50
