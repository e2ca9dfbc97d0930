/-! part 99.tslib -/
section
section TSL
def TBS (D : va_G) (ad : Nat → Nat) (cI cM cB : ClassId) (sz : Nat) (μ : TMem) : State → Prop := fun U => TB D ad cI cM sz μ U ∧ JK D cB U ∧ CN U ∧ ZS (TA ad sz) U U.heap ∧ SR U
/-- a method of the class's that makes a text: the tree stays as it is -/
def TS (l : Launch) (y : MethodName) (cd : Cond) (h c n : Nat) (as : List Value) (D : va_G) (ad : Nat → Nat) (cI cM cB : ClassId) (sz : Nat) (μ : TMem) : Prop := Met l y (cd :: W0) (RA h c n) (va_Pc as (TBS D ad cI cM cB sz μ)) (va_Qr (fun _ : Unit => True) (fun _ _ t => TE D ad cI cM μ t) (TA ad sz)) c n (TA ad sz)
variable {p : Program} {l : Launch} {e : Env} {R : Room} {s : State} {m : MethodId} {args : Array Value} {below : List Frame} {meth : Method} {c : Code} {H : Heap} {locs : List Loc} {cells slots : Nat} {Q : State → Prop}
variable {cc : ByteArray} {pc : Nat} {ls : Array Slot} {rest : List Value} {D : va_G} {ad : Nat → Nat} {cI cM cB : ClassId} {μ : TMem} {N RG : va_W} {A : Nat → Prop}
theorem TBS.blind {as : List Value} {sz : Nat} : FrameBlind (va_Pc as (TBS D ad cI cM cB sz μ)) := fun z U g mk q => by
  obtain ⟨q0, q1, q2, q3, q4, q5⟩ := q
  exact ⟨q0, (TB.blind z U g mk ⟨q0, q1⟩).2, va_K.moved (u := U) (U := U.calling g mk z) (Vm.Alike.refl U.vm) q2, CN.same (u := U) rfl q3, ZS.moved (u := U) (U := U.calling g mk z) (Vm.Alike.refl U.vm) q4, SR.same (s := U) rfl q5⟩
theorem TBS.pre {as : List Value} (hT : TK D cI cM s) (hN : NW s) (hJ : JK D cB s) (hC : CN s) (hZ : ZS (TA ad s.heap.size) s s.heap) (hR : SR s) (hw : TW D ad cI cM s μ H locs) : ∀ U : State, U.heap = H → s.WarmedH U.vm → va_Pc as (TBS D ad cI cM cB H.size μ) as.toArray U := fun U hU hW => by
  refine ⟨rfl, (TB.pre (as := as) hT hN hw U hU hW).2, va_K.moved hW.alike hJ, hC.warm hW, ?_, SR.warm hW hR⟩
  rw [hU]
  exact ((hZ.kept hw.2.2.2.1).moved hW.alike).narrow (TA.up hw.2.2.1)
theorem MT.tw (hI : TI ad) (hw : MW D (TRX ad cI cM μ) N (TA ad s.heap.size) s H locs) : TW D ad cI cM s μ H locs := ⟨fun k q hq => hw.1 k q (by rw [List.getElem?_append_left (List.getElem?_eq_some_iff.mp hq).1]; exact hq), hI, hw.2.2.1⟩
theorem MT.of (hw : TW D ad cI cM s μ H locs) : MW D (TRX ad cI cM μ) [] (TA ad s.heap.size) s H locs := ⟨by rw [List.append_nil]; exact hw.1, by rw [List.append_nil]; exact hw.2.1.D, hw.2.2, fun q h => Or.inr h⟩
theorem MT.keep (hI : TI ad) (hw : MW D (TRX ad cI cM μ) N (TA ad s.heap.size) s H locs) {μ1 : TMem} {H1 : Heap} {locs1 : List Loc} (hk : ∀ q : Nat, q < H.size → ¬ TA ad H.size q → H1[q]? = H[q]?) (hP : va_P D CL (TRX ad cI cM μ1) H1) (hS : va_S (TA ad s.heap.size) s.heap H1 locs1) : MW D (TRX ad cI cM μ1) N (TA ad s.heap.size) s H1 locs1 := by
  have out : ∀ (k : Nat) (q : Nat × va_E), N[k]? = some q → ∀ i, i < 59 → q.1 ≠ ad i := fun k q hq i hi e => by
    have hx : (TRX ad cI cM μ ++ N)[i]? = some (ad i, ent ad cI cM (μ i) i) := by
      rw [List.getElem?_append_left (by simp [TRX]; exact hi)]
      exact TRX_at hi
    have := hw.2.1.1 _ i q _ (NAT (RG := TRX ad cI cM μ) hq) hx e
    simp [TRX] at this
    omega
  refine ⟨hP.app (fun k q hq => ?_), va_D.app hI.D ⟨fun i j x y hx hy e => ?_, fun k q hq => hw.2.1.2 _ q (NAT (RG := TRX ad cI cM μ) hq)⟩ (fun i j x y hx hy e => ?_), hS, hw.2.2.2⟩
  · have ha := hw.1 _ _ (NAT (RG := TRX ad cI cM μ) hq)
    refine ha.kept (hk q.1 ha.lt (fun z => ?_))
    rcases z with ⟨i, hi, e⟩ | z
    · exact out k q hq i hi e
    · exact absurd ha.lt (Nat.not_lt.mpr z)
  · have := hw.2.1.1 _ _ x y (NAT (RG := TRX ad cI cM μ) hx) (NAT (RG := TRX ad cI cM μ) hy) e
    omega
  · obtain ⟨hi, rfl⟩ := TRX_of hx
    exact out j y hy i hi e.symm
theorem MT_calli {Q1 : Int32 → TMem → Prop} {st0 : List Value} {a : Array Value} (hI : TI ad) (hw : MW D (TRX ad cI cM μ) N (TA ad s.heap.size) s H locs) (hr : va_Run p l e R s m args below meth c H locs cells slots 0 0 (F0 m pc ls st0) rest (va_Qi (fun r μ1 => μ1 = μ ∧ Q1 r μ1) (TE D ad cI cM) (TA ad H.size) a) (TA ad H.size))
    (kk : ∀ (r : Int32) (H1 : Heap) (locs1 : List Loc), Q1 r μ → MW D (TRX ad cI cM μ) N (TA ad s.heap.size) s H1 locs1 → W p l e R s m args below meth c H1 locs1 cells slots Q (F0 m (pc + 3) ls (.int r :: rest))) : W p l e R s m args below meth c H locs cells slots Q (F0 m pc ls st0) :=
  va_calli hr hw.2.2.1 (fun q _ h => TA.up hw.2.2.1.1 q h) (fun q h => TA.up hw.2.2.1.1 q h) (fun r u t H1 locs1 ht _ hq hB _ hk hS => by
    obtain ⟨rfl, hq⟩ := hq
    exact kk r H1 locs1 hq (MT.keep hI hw hk (by rw [← ht]; exact hB) hS))
theorem TS_callr {mc ms : Nat} {st0 : List Value} {a : Array Value} (hw : TW D ad cI cM s μ H locs) (hr : va_Run p l e R s m args below meth c H locs cells slots mc ms (F0 m pc ls st0) rest (va_Qr (fun _ : Unit => True) (fun _ _ t => TE D ad cI cM μ t) (TA ad H.size) a) (TA ad H.size))
    (kk : ∀ (ra : Nat) (H1 : Heap) (locs1 : List Loc), TW D ad cI cM s μ H1 locs1 → W p l e R s m args below meth c H1 locs1 (cells + mc) (slots + ms) Q (F0 m (pc + 3) ls (.ref ra :: rest))) : W p l e R s m args below meth c H locs cells slots Q (F0 m pc ls st0) :=
  va_callr hr hw.2.2 (fun q _ h => TA.up hw.2.2.1 q h) (fun q h => TA.up hw.2.2.1 q h) (fun u ra t H1 locs1 ht _ hq hB _ hk hS => kk ra H1 locs1 ⟨by rw [← ht]; exact hB, hw.2.1, hS⟩)
theorem n_newO {c0 : Code} {tys : List (ClassId × FieldType)} (hx : p.tables.exec = Jvm.exec) (hb : c0.code = cc) (ht : ∀ w ∈ W0, w.before args s = true) {own C0 : String} {T : u_T} {N0 ci index : Nat} (hin : ∀ w ∈ u_ws C0 T N0, w ∈ W0) (ty : Nat → FieldType) (hty : ∀ k, k < N0 → parseFieldDescriptor (T k).2.2.1 = some (ty k)) (hown : s.vm.findClass own = some m.cls) (hcl : (Cond.classLink own index C0).before args s = true) (hinst : (Cond.instantiable C0 N0).before args s = true) (hini : (Cond.initialized C0).before args s = true)
    (hK : va_K D CL tys s) (hw : MW D RG N A s H locs) (hc : CL[ci]? = some (C0, T, N0)) {fs : List Value} (hfs : ∀ j, j < N0 → defaultValue (ty j) = vp_V fs j) (hcells : cells + 1 ≤ R.cells) (hslots : slots + N0 ≤ R.slots) (hdg : decode cc pc = .ok (.new index, 3))
    (kk : ∀ (q : Nat) (H1 : Heap), MW D RG (N ++ [(q, .inr (ci, fs))]) A s H1 locs → W p l e R s m args below meth c0 H1 locs (cells + 1) (slots + N0) Q (F0 m (pc + 3) ls (.ref q :: rest))) : W p l e R s m args below meth c0 H locs cells slots Q (F0 m pc ls rest) :=
  va_new hx hb ht hin ty hty hown hcl hinst hini hK hw.1 hw.2.1 hw.2.2.1 hw.2.2.2 hc hfs hcells hslots hdg (fun q H1 hP hD hS => kk q H1 ⟨by rw [← List.append_assoc]; exact hP, by rw [← List.append_assoc]; exact hD, hS, hw.2.2.2⟩)
theorem TS_met {l : Launch} {y : MethodName} {bytes : ByteArray} {maxL : Nat} {cn : String} {h fc fn : Nat} {as : List Value} {D : va_G} {ad : Nat → Nat} {cI cM cB : ClassId} {sz : Nat} {μ : TMem} (hy : plainName y.cls = true) (hsl : (lg_sl as).length ≤ maxL)
    (body : ∀ (p : Program) (e : Env) (s : State) (m : MethodId) (below : List Frame) (meth : Method) (c : Code) (Z : State → Prop) (ls : Array Slot), p.tables.exec = Jvm.exec → c.code = bytes → c.maxLocals = maxL → s.vm.findClass y.cls = some m.cls → (∀ w ∈ W0, w.before as.toArray s = true) → NW s → TK D cI cM s → TI ad → JK D cB s → CN s → ZS (TA ad s.heap.size) s s.heap → SR s → MW D (TRX ad cI cM μ) [] (TA ad s.heap.size) s s.heap [] →
      (∀ (H : Heap) (locs : List Loc) (ls : Array Slot) (pc cells slots : Nat) (N : va_W) (a : Nat), MW D (TRX ad cI cM μ) N (TA ad s.heap.size) s H locs → cells ≤ fc → slots ≤ fn → decode bytes pc = .ok (.areturn, 1) → W p l e (RA h fc fn) s m as.toArray below meth c H locs cells slots Z (F0 m pc ls [.ref a])) → lv_has ls maxL (lv_args 0 as) →
      W p l e (RA h fc fn) s m as.toArray below meth c s.heap [] 0 0 Z (F0 m 0 ls [])) : TS l y (.code y bytes maxL (some (.object cn))) h fc fn as D ad cI cM cB sz μ := by
  refine Met.ofW (cc := bytes) (maxL := maxL) (ret := some (.object cn)) hy rfl ?_
  intro p e s m args below meth c s₁ B hml hv
  obtain ⟨rfl, ⟨hsz, hP, hK, hI, hN⟩, hJ, hC, hZ, hR⟩ := hv
  subst hsz
  have hts := atoms_spec B.pre
  have hlocks := B.notSynchronized
  rw [lg_entry_eq]
  exact body p e s m below meth c _ _ B.exec B.bytes hml (findClass_of_methodNamed B.named) (fun w hw => hts w (List.mem_cons_of_mem _ hw)) hN hK hI hJ hC hZ hR (MT.of ⟨hP, hI, va_S.rf⟩) (fun H locs ls pc cells slots N a hw hc hs hdg =>
      W.widen hc hs (W.aret B.exec B.bytes B.returns (Or.inl ⟨_, rfl⟩) (Or.inr ⟨_, rfl⟩) (fun t ht9 hW => ⟨⟨(), a, rfl, trivial, by show va_P D CL (TRX ad cI cM μ) t.heap; rw [ht9]; exact (MT.tw hI hw).1⟩, hw.2.2.1.F ht9⟩) hw.2.2.1.2.2 hdg hlocks)) (lv_entry as hsl)
/-- a text in the making: m room, n letters, what was made so far -/
def BS (m n cv sv : Nat) : Prop := n ≤ m ∧ 16 ≤ m ∧ m ≤ 2 * n + 16 ∧ 16 * cv ≤ m + 16 ∧ sv ≤ 2 * m
theorem BS.add {m n cv sv : Nat} (w : Nat) (h : BS m n cv sv) : BS (cap (n + w) m) (n + w) (cv + gr (n + w) m) (sv + gs (n + w) m) := by
  obtain ⟨h1, h2, h3, h4, h5⟩ := h
  unfold BS gr gs cap
  split
  · refine ⟨by omega, by omega, by omega, by omega, by omega⟩
  · split <;> refine ⟨by omega, by omega, by omega, by omega, by omega⟩
end TSL
end
/-! part 9a.ts1 -/
section
set_option maxRecDepth 100000 in
theorem db_cX5_describe_dX5_describe_0_0 : zw [(0, .new 53, 3), (3, .dup, 1), (4, .invokespecial 55, 3), (7, .astore_n 1, 1), (8, .iconst 0, 1), (9, .istore_n 2, 1), (10, .iload_n 2, 1), (11, .aload_n 0, 1), (12, .getfield 28, 3), (15, .if_icmp .ge 70, 3), (18, .iload_n 2, 1), (19, .ifCond .le 10, 3), (22, .aload_n 1, 1), (23, .bipush 32, 2), (25, .invokevirtual 58, 3), (28, .pop, 1)] (cX5_describe.data.toList.drop 0) 0 = true := by decide +kernel
def dc_cX5_describe_dX5_describe_0_0 := zw_16 db_cX5_describe_dX5_describe_0_0
def dX5_describe_0 := dc_cX5_describe_dX5_describe_0_0.1
def dX5_describe_3 := dc_cX5_describe_dX5_describe_0_0.2.1
def dX5_describe_4 := dc_cX5_describe_dX5_describe_0_0.2.2.1
def dX5_describe_7 := dc_cX5_describe_dX5_describe_0_0.2.2.2.1
def dX5_describe_8 := dc_cX5_describe_dX5_describe_0_0.2.2.2.2.1
def dX5_describe_9 := dc_cX5_describe_dX5_describe_0_0.2.2.2.2.2.1
def dX5_describe_10 := dc_cX5_describe_dX5_describe_0_0.2.2.2.2.2.2.1
def dX5_describe_11 := dc_cX5_describe_dX5_describe_0_0.2.2.2.2.2.2.2.1
def dX5_describe_12 := dc_cX5_describe_dX5_describe_0_0.2.2.2.2.2.2.2.2.1
def dX5_describe_15 := dc_cX5_describe_dX5_describe_0_0.2.2.2.2.2.2.2.2.2.1
def dX5_describe_18 := dc_cX5_describe_dX5_describe_0_0.2.2.2.2.2.2.2.2.2.2.1
def dX5_describe_19 := dc_cX5_describe_dX5_describe_0_0.2.2.2.2.2.2.2.2.2.2.2.1
def dX5_describe_22 := dc_cX5_describe_dX5_describe_0_0.2.2.2.2.2.2.2.2.2.2.2.2.1
def dX5_describe_23 := dc_cX5_describe_dX5_describe_0_0.2.2.2.2.2.2.2.2.2.2.2.2.2.1
def dX5_describe_25 := dc_cX5_describe_dX5_describe_0_0.2.2.2.2.2.2.2.2.2.2.2.2.2.2.1
def dX5_describe_28 := dc_cX5_describe_dX5_describe_0_0.2.2.2.2.2.2.2.2.2.2.2.2.2.2.2
set_option maxRecDepth 100000 in
theorem db_cX5_describe_dX5_describe_29_1 : zw [(29, .iconst 0, 1), (30, .istore_n 3, 1), (31, .iload_n 3, 1), (32, .iconst 3, 1), (33, .if_icmp .ge 31, 3), (36, .iload_n 3, 1), (37, .ifCond .le 10, 3), (40, .aload_n 1, 1), (41, .bipush 44, 2), (43, .invokevirtual 58, 3), (46, .pop, 1), (47, .aload_n 1, 1), (48, .aload_n 0, 1), (49, .iload_n 2, 1), (50, .iload_n 3, 1), (51, .invokevirtual 46, 3)] (cX5_describe.data.toList.drop 29) 29 = true := by decide +kernel
def dc_cX5_describe_dX5_describe_29_1 := zw_16 db_cX5_describe_dX5_describe_29_1
def dX5_describe_29 := dc_cX5_describe_dX5_describe_29_1.1
def dX5_describe_30 := dc_cX5_describe_dX5_describe_29_1.2.1
def dX5_describe_31 := dc_cX5_describe_dX5_describe_29_1.2.2.1
def dX5_describe_32 := dc_cX5_describe_dX5_describe_29_1.2.2.2.1
def dX5_describe_33 := dc_cX5_describe_dX5_describe_29_1.2.2.2.2.1
def dX5_describe_36 := dc_cX5_describe_dX5_describe_29_1.2.2.2.2.2.1
def dX5_describe_37 := dc_cX5_describe_dX5_describe_29_1.2.2.2.2.2.2.1
def dX5_describe_40 := dc_cX5_describe_dX5_describe_29_1.2.2.2.2.2.2.2.1
def dX5_describe_41 := dc_cX5_describe_dX5_describe_29_1.2.2.2.2.2.2.2.2.1
def dX5_describe_43 := dc_cX5_describe_dX5_describe_29_1.2.2.2.2.2.2.2.2.2.1
def dX5_describe_46 := dc_cX5_describe_dX5_describe_29_1.2.2.2.2.2.2.2.2.2.2.1
def dX5_describe_47 := dc_cX5_describe_dX5_describe_29_1.2.2.2.2.2.2.2.2.2.2.2.1
def dX5_describe_48 := dc_cX5_describe_dX5_describe_29_1.2.2.2.2.2.2.2.2.2.2.2.2.1
def dX5_describe_49 := dc_cX5_describe_dX5_describe_29_1.2.2.2.2.2.2.2.2.2.2.2.2.2.1
def dX5_describe_50 := dc_cX5_describe_dX5_describe_29_1.2.2.2.2.2.2.2.2.2.2.2.2.2.2.1
def dX5_describe_51 := dc_cX5_describe_dX5_describe_29_1.2.2.2.2.2.2.2.2.2.2.2.2.2.2.2
set_option maxRecDepth 100000 in
theorem db_cX5_describe_dX5_describe_54_2 : zw [(54, .invokevirtual 62, 3), (57, .pop, 1), (58, .iinc 3 1, 3), (61, .goto (-30), 3), (64, .aload_n 0, 1), (65, .iload_n 2, 1), (66, .invokevirtual 65, 3), (69, .ifCond .eq 10, 3), (72, .aload_n 1, 1), (73, .bipush 42, 2), (75, .invokevirtual 58, 3), (78, .pop, 1), (79, .iinc 2 1, 3), (82, .goto (-72), 3), (85, .aload_n 1, 1), (86, .invokevirtual 68, 3)] (cX5_describe.data.toList.drop 54) 54 = true := by decide +kernel
def dc_cX5_describe_dX5_describe_54_2 := zw_16 db_cX5_describe_dX5_describe_54_2
def dX5_describe_54 := dc_cX5_describe_dX5_describe_54_2.1
def dX5_describe_57 := dc_cX5_describe_dX5_describe_54_2.2.1
def dX5_describe_58 := dc_cX5_describe_dX5_describe_54_2.2.2.1
def dX5_describe_61 := dc_cX5_describe_dX5_describe_54_2.2.2.2.1
def dX5_describe_64 := dc_cX5_describe_dX5_describe_54_2.2.2.2.2.1
def dX5_describe_65 := dc_cX5_describe_dX5_describe_54_2.2.2.2.2.2.1
def dX5_describe_66 := dc_cX5_describe_dX5_describe_54_2.2.2.2.2.2.2.1
def dX5_describe_69 := dc_cX5_describe_dX5_describe_54_2.2.2.2.2.2.2.2.1
def dX5_describe_72 := dc_cX5_describe_dX5_describe_54_2.2.2.2.2.2.2.2.2.1
def dX5_describe_73 := dc_cX5_describe_dX5_describe_54_2.2.2.2.2.2.2.2.2.2.1
def dX5_describe_75 := dc_cX5_describe_dX5_describe_54_2.2.2.2.2.2.2.2.2.2.2.1
def dX5_describe_78 := dc_cX5_describe_dX5_describe_54_2.2.2.2.2.2.2.2.2.2.2.2.1
def dX5_describe_79 := dc_cX5_describe_dX5_describe_54_2.2.2.2.2.2.2.2.2.2.2.2.2.1
def dX5_describe_82 := dc_cX5_describe_dX5_describe_54_2.2.2.2.2.2.2.2.2.2.2.2.2.2.1
def dX5_describe_85 := dc_cX5_describe_dX5_describe_54_2.2.2.2.2.2.2.2.2.2.2.2.2.2.2.1
def dX5_describe_86 := dc_cX5_describe_dX5_describe_54_2.2.2.2.2.2.2.2.2.2.2.2.2.2.2.2
set_option maxRecDepth 100000 in
theorem db_cX5_describe_dX5_describe_89_3 : zw [(89, .areturn, 1)] (cX5_describe.data.toList.drop 89) 89 = true := by decide +kernel
def dX5_describe_89 := zw_1 db_cX5_describe_dX5_describe_89_3
set_option maxRecDepth 100000 in
theorem db_cX4_wordTo_dX4_wordTo_0_0 : zw [(0, .new 78, 3), (3, .dup, 1), (4, .invokespecial 80, 3), (7, .astore_n 2, 1), (8, .aload_n 2, 1), (9, .bipush 46, 2), (11, .invokevirtual 81, 3), (14, .pop, 1), (15, .iload_n 1, 1), (16, .istore_n 3, 1), (17, .iconst 0, 1), (18, .istore 4, 2), (20, .iload 4, 2), (22, .sipush 200, 3), (25, .if_icmp .ge 38, 3), (28, .iload_n 3, 1)] (cX4_wordTo.data.toList.drop 0) 0 = true := by decide +kernel
def dc_cX4_wordTo_dX4_wordTo_0_0 := zw_16 db_cX4_wordTo_dX4_wordTo_0_0
def dX4_wordTo_0 := dc_cX4_wordTo_dX4_wordTo_0_0.1
def dX4_wordTo_3 := dc_cX4_wordTo_dX4_wordTo_0_0.2.1
def dX4_wordTo_4 := dc_cX4_wordTo_dX4_wordTo_0_0.2.2.1
def dX4_wordTo_7 := dc_cX4_wordTo_dX4_wordTo_0_0.2.2.2.1
def dX4_wordTo_8 := dc_cX4_wordTo_dX4_wordTo_0_0.2.2.2.2.1
def dX4_wordTo_9 := dc_cX4_wordTo_dX4_wordTo_0_0.2.2.2.2.2.1
def dX4_wordTo_11 := dc_cX4_wordTo_dX4_wordTo_0_0.2.2.2.2.2.2.1
def dX4_wordTo_14 := dc_cX4_wordTo_dX4_wordTo_0_0.2.2.2.2.2.2.2.1
def dX4_wordTo_15 := dc_cX4_wordTo_dX4_wordTo_0_0.2.2.2.2.2.2.2.2.1
def dX4_wordTo_16 := dc_cX4_wordTo_dX4_wordTo_0_0.2.2.2.2.2.2.2.2.2.1
def dX4_wordTo_17 := dc_cX4_wordTo_dX4_wordTo_0_0.2.2.2.2.2.2.2.2.2.2.1
def dX4_wordTo_18 := dc_cX4_wordTo_dX4_wordTo_0_0.2.2.2.2.2.2.2.2.2.2.2.1
def dX4_wordTo_20 := dc_cX4_wordTo_dX4_wordTo_0_0.2.2.2.2.2.2.2.2.2.2.2.2.1
def dX4_wordTo_22 := dc_cX4_wordTo_dX4_wordTo_0_0.2.2.2.2.2.2.2.2.2.2.2.2.2.1
def dX4_wordTo_25 := dc_cX4_wordTo_dX4_wordTo_0_0.2.2.2.2.2.2.2.2.2.2.2.2.2.2.1
def dX4_wordTo_28 := dc_cX4_wordTo_dX4_wordTo_0_0.2.2.2.2.2.2.2.2.2.2.2.2.2.2.2
set_option maxRecDepth 100000 in
theorem db_cX4_wordTo_dX4_wordTo_29_1 : zw [(29, .ifCond .le 34, 3), (32, .aload_n 2, 1), (33, .aload_n 0, 1), (34, .getfield 26, 3), (37, .iload_n 3, 1), (38, .invokevirtual 60, 3), (41, .invokestatic 85, 3), (44, .invokevirtual 81, 3), (47, .pop, 1), (48, .aload_n 0, 1), (49, .getfield 23, 3), (52, .iload_n 3, 1), (53, .invokevirtual 60, 3), (56, .istore_n 3, 1), (57, .iinc 4 1, 3), (60, .goto (-40), 3)] (cX4_wordTo.data.toList.drop 29) 29 = true := by decide +kernel
def dc_cX4_wordTo_dX4_wordTo_29_1 := zw_16 db_cX4_wordTo_dX4_wordTo_29_1
def dX4_wordTo_29 := dc_cX4_wordTo_dX4_wordTo_29_1.1
def dX4_wordTo_32 := dc_cX4_wordTo_dX4_wordTo_29_1.2.1
def dX4_wordTo_33 := dc_cX4_wordTo_dX4_wordTo_29_1.2.2.1
def dX4_wordTo_34 := dc_cX4_wordTo_dX4_wordTo_29_1.2.2.2.1
def dX4_wordTo_37 := dc_cX4_wordTo_dX4_wordTo_29_1.2.2.2.2.1
def dX4_wordTo_38 := dc_cX4_wordTo_dX4_wordTo_29_1.2.2.2.2.2.1
def dX4_wordTo_41 := dc_cX4_wordTo_dX4_wordTo_29_1.2.2.2.2.2.2.1
def dX4_wordTo_44 := dc_cX4_wordTo_dX4_wordTo_29_1.2.2.2.2.2.2.2.1
def dX4_wordTo_47 := dc_cX4_wordTo_dX4_wordTo_29_1.2.2.2.2.2.2.2.2.1
def dX4_wordTo_48 := dc_cX4_wordTo_dX4_wordTo_29_1.2.2.2.2.2.2.2.2.2.1
def dX4_wordTo_49 := dc_cX4_wordTo_dX4_wordTo_29_1.2.2.2.2.2.2.2.2.2.2.1
def dX4_wordTo_52 := dc_cX4_wordTo_dX4_wordTo_29_1.2.2.2.2.2.2.2.2.2.2.2.1
def dX4_wordTo_53 := dc_cX4_wordTo_dX4_wordTo_29_1.2.2.2.2.2.2.2.2.2.2.2.2.1
def dX4_wordTo_56 := dc_cX4_wordTo_dX4_wordTo_29_1.2.2.2.2.2.2.2.2.2.2.2.2.2.1
def dX4_wordTo_57 := dc_cX4_wordTo_dX4_wordTo_29_1.2.2.2.2.2.2.2.2.2.2.2.2.2.2.1
def dX4_wordTo_60 := dc_cX4_wordTo_dX4_wordTo_29_1.2.2.2.2.2.2.2.2.2.2.2.2.2.2.2
set_option maxRecDepth 100000 in
theorem db_cX4_wordTo_dX4_wordTo_63_2 : zw [(63, .aload_n 2, 1), (64, .invokevirtual 89, 3), (67, .invokevirtual 93, 3), (70, .areturn, 1)] (cX4_wordTo.data.toList.drop 63) 63 = true := by decide +kernel
def dc_cX4_wordTo_dX4_wordTo_63_2 := zw_4 db_cX4_wordTo_dX4_wordTo_63_2
def dX4_wordTo_63 := dc_cX4_wordTo_dX4_wordTo_63_2.1
def dX4_wordTo_64 := dc_cX4_wordTo_dX4_wordTo_63_2.2.1
def dX4_wordTo_67 := dc_cX4_wordTo_dX4_wordTo_63_2.2.2.1
def dX4_wordTo_70 := dc_cX4_wordTo_dX4_wordTo_63_2.2.2.2
set_option maxRecDepth 100000 in
theorem db_cX8_wordOfLength_dX8_wordOfLength_0_0 : zw [(0, .new 54, 3), (3, .dup, 1), (4, .invokespecial 56, 3), (7, .astore 4, 2), (9, .iload_n 3, 1), (10, .istore 5, 2), (12, .iconst 0, 1), (13, .istore 6, 2), (15, .iload_n 2, 1), (16, .iconst 1, 1), (17, .isub, 1), (18, .istore 7, 2), (20, .iload 7, 2), (22, .ifCond .lt 83, 3), (25, .iconst 0, 1), (26, .istore 8, 2)] (cX8_wordOfLength.data.toList.drop 0) 0 = true := by decide +kernel
def dc_cX8_wordOfLength_dX8_wordOfLength_0_0 := zw_16 db_cX8_wordOfLength_dX8_wordOfLength_0_0
def dX8_wordOfLength_0 := dc_cX8_wordOfLength_dX8_wordOfLength_0_0.1
def dX8_wordOfLength_3 := dc_cX8_wordOfLength_dX8_wordOfLength_0_0.2.1
def dX8_wordOfLength_4 := dc_cX8_wordOfLength_dX8_wordOfLength_0_0.2.2.1
def dX8_wordOfLength_7 := dc_cX8_wordOfLength_dX8_wordOfLength_0_0.2.2.2.1
def dX8_wordOfLength_9 := dc_cX8_wordOfLength_dX8_wordOfLength_0_0.2.2.2.2.1
def dX8_wordOfLength_10 := dc_cX8_wordOfLength_dX8_wordOfLength_0_0.2.2.2.2.2.1
def dX8_wordOfLength_12 := dc_cX8_wordOfLength_dX8_wordOfLength_0_0.2.2.2.2.2.2.1
def dX8_wordOfLength_13 := dc_cX8_wordOfLength_dX8_wordOfLength_0_0.2.2.2.2.2.2.2.1
def dX8_wordOfLength_15 := dc_cX8_wordOfLength_dX8_wordOfLength_0_0.2.2.2.2.2.2.2.2.1
def dX8_wordOfLength_16 := dc_cX8_wordOfLength_dX8_wordOfLength_0_0.2.2.2.2.2.2.2.2.2.1
def dX8_wordOfLength_17 := dc_cX8_wordOfLength_dX8_wordOfLength_0_0.2.2.2.2.2.2.2.2.2.2.1
def dX8_wordOfLength_18 := dc_cX8_wordOfLength_dX8_wordOfLength_0_0.2.2.2.2.2.2.2.2.2.2.2.1
def dX8_wordOfLength_20 := dc_cX8_wordOfLength_dX8_wordOfLength_0_0.2.2.2.2.2.2.2.2.2.2.2.2.1
def dX8_wordOfLength_22 := dc_cX8_wordOfLength_dX8_wordOfLength_0_0.2.2.2.2.2.2.2.2.2.2.2.2.2.1
def dX8_wordOfLength_25 := dc_cX8_wordOfLength_dX8_wordOfLength_0_0.2.2.2.2.2.2.2.2.2.2.2.2.2.2.1
def dX8_wordOfLength_26 := dc_cX8_wordOfLength_dX8_wordOfLength_0_0.2.2.2.2.2.2.2.2.2.2.2.2.2.2.2
set_option maxRecDepth 100000 in
theorem db_cX8_wordOfLength_dX8_wordOfLength_28_1 : zw [(28, .iload 8, 2), (30, .iconst 2, 1), (31, .if_icmp .ge 47, 3), (34, .iload 5, 2), (36, .aload_n 0, 1), (37, .aload_n 1, 1), (38, .iload 6, 2), (40, .iload 8, 2), (42, .invokevirtual 42, 3), (45, .iload 7, 2), (47, .invokevirtual 45, 3), (50, .if_icmp .lt 28, 3), (53, .iload 5, 2), (55, .aload_n 0, 1), (56, .aload_n 1, 1), (57, .iload 6, 2)] (cX8_wordOfLength.data.toList.drop 28) 28 = true := by decide +kernel
def dc_cX8_wordOfLength_dX8_wordOfLength_28_1 := zw_16 db_cX8_wordOfLength_dX8_wordOfLength_28_1
def dX8_wordOfLength_28 := dc_cX8_wordOfLength_dX8_wordOfLength_28_1.1
def dX8_wordOfLength_30 := dc_cX8_wordOfLength_dX8_wordOfLength_28_1.2.1
def dX8_wordOfLength_31 := dc_cX8_wordOfLength_dX8_wordOfLength_28_1.2.2.1
def dX8_wordOfLength_34 := dc_cX8_wordOfLength_dX8_wordOfLength_28_1.2.2.2.1
def dX8_wordOfLength_36 := dc_cX8_wordOfLength_dX8_wordOfLength_28_1.2.2.2.2.1
def dX8_wordOfLength_37 := dc_cX8_wordOfLength_dX8_wordOfLength_28_1.2.2.2.2.2.1
def dX8_wordOfLength_38 := dc_cX8_wordOfLength_dX8_wordOfLength_28_1.2.2.2.2.2.2.1
def dX8_wordOfLength_40 := dc_cX8_wordOfLength_dX8_wordOfLength_28_1.2.2.2.2.2.2.2.1
def dX8_wordOfLength_42 := dc_cX8_wordOfLength_dX8_wordOfLength_28_1.2.2.2.2.2.2.2.2.1
def dX8_wordOfLength_45 := dc_cX8_wordOfLength_dX8_wordOfLength_28_1.2.2.2.2.2.2.2.2.2.1
def dX8_wordOfLength_47 := dc_cX8_wordOfLength_dX8_wordOfLength_28_1.2.2.2.2.2.2.2.2.2.2.1
def dX8_wordOfLength_50 := dc_cX8_wordOfLength_dX8_wordOfLength_28_1.2.2.2.2.2.2.2.2.2.2.2.1
def dX8_wordOfLength_53 := dc_cX8_wordOfLength_dX8_wordOfLength_28_1.2.2.2.2.2.2.2.2.2.2.2.2.1
def dX8_wordOfLength_55 := dc_cX8_wordOfLength_dX8_wordOfLength_28_1.2.2.2.2.2.2.2.2.2.2.2.2.2.1
def dX8_wordOfLength_56 := dc_cX8_wordOfLength_dX8_wordOfLength_28_1.2.2.2.2.2.2.2.2.2.2.2.2.2.2.1
def dX8_wordOfLength_57 := dc_cX8_wordOfLength_dX8_wordOfLength_28_1.2.2.2.2.2.2.2.2.2.2.2.2.2.2.2
set_option maxRecDepth 100000 in
theorem db_cX8_wordOfLength_dX8_wordOfLength_59_2 : zw [(59, .iload 8, 2), (61, .invokevirtual 42, 3), (64, .iload 7, 2), (66, .invokevirtual 45, 3), (69, .isub, 1), (70, .istore 5, 2), (72, .iinc 8 1, 3), (75, .goto (-47), 3), (78, .aload 4, 2), (80, .iload 8, 2), (82, .invokestatic 57, 3), (85, .invokevirtual 61, 3), (88, .pop, 1), (89, .aload_n 1, 1), (90, .iload 6, 2), (92, .iload 8, 2)] (cX8_wordOfLength.data.toList.drop 59) 59 = true := by decide +kernel
def dc_cX8_wordOfLength_dX8_wordOfLength_59_2 := zw_16 db_cX8_wordOfLength_dX8_wordOfLength_59_2
def dX8_wordOfLength_59 := dc_cX8_wordOfLength_dX8_wordOfLength_59_2.1
def dX8_wordOfLength_61 := dc_cX8_wordOfLength_dX8_wordOfLength_59_2.2.1
def dX8_wordOfLength_64 := dc_cX8_wordOfLength_dX8_wordOfLength_59_2.2.2.1
def dX8_wordOfLength_66 := dc_cX8_wordOfLength_dX8_wordOfLength_59_2.2.2.2.1
def dX8_wordOfLength_69 := dc_cX8_wordOfLength_dX8_wordOfLength_59_2.2.2.2.2.1
def dX8_wordOfLength_70 := dc_cX8_wordOfLength_dX8_wordOfLength_59_2.2.2.2.2.2.1
def dX8_wordOfLength_72 := dc_cX8_wordOfLength_dX8_wordOfLength_59_2.2.2.2.2.2.2.1
def dX8_wordOfLength_75 := dc_cX8_wordOfLength_dX8_wordOfLength_59_2.2.2.2.2.2.2.2.1
def dX8_wordOfLength_78 := dc_cX8_wordOfLength_dX8_wordOfLength_59_2.2.2.2.2.2.2.2.2.1
def dX8_wordOfLength_80 := dc_cX8_wordOfLength_dX8_wordOfLength_59_2.2.2.2.2.2.2.2.2.2.1
def dX8_wordOfLength_82 := dc_cX8_wordOfLength_dX8_wordOfLength_59_2.2.2.2.2.2.2.2.2.2.2.1
def dX8_wordOfLength_85 := dc_cX8_wordOfLength_dX8_wordOfLength_59_2.2.2.2.2.2.2.2.2.2.2.2.1
def dX8_wordOfLength_88 := dc_cX8_wordOfLength_dX8_wordOfLength_59_2.2.2.2.2.2.2.2.2.2.2.2.2.1
def dX8_wordOfLength_89 := dc_cX8_wordOfLength_dX8_wordOfLength_59_2.2.2.2.2.2.2.2.2.2.2.2.2.2.1
def dX8_wordOfLength_90 := dc_cX8_wordOfLength_dX8_wordOfLength_59_2.2.2.2.2.2.2.2.2.2.2.2.2.2.2.1
def dX8_wordOfLength_92 := dc_cX8_wordOfLength_dX8_wordOfLength_59_2.2.2.2.2.2.2.2.2.2.2.2.2.2.2.2
set_option maxRecDepth 100000 in
theorem db_cX8_wordOfLength_dX8_wordOfLength_94_3 : zw [(94, .invokevirtual 42, 3), (97, .istore 6, 2), (99, .iinc 7 (-1), 3), (102, .goto (-82), 3), (105, .aload 4, 2), (107, .bipush 46, 2), (109, .invokevirtual 61, 3), (112, .pop, 1), (113, .aload 4, 2), (115, .invokevirtual 65, 3), (118, .areturn, 1)] (cX8_wordOfLength.data.toList.drop 94) 94 = true := by decide +kernel
def dc_cX8_wordOfLength_dX8_wordOfLength_94_3 := zw_11 db_cX8_wordOfLength_dX8_wordOfLength_94_3
def dX8_wordOfLength_94 := dc_cX8_wordOfLength_dX8_wordOfLength_94_3.1
def dX8_wordOfLength_97 := dc_cX8_wordOfLength_dX8_wordOfLength_94_3.2.1
def dX8_wordOfLength_99 := dc_cX8_wordOfLength_dX8_wordOfLength_94_3.2.2.1
def dX8_wordOfLength_102 := dc_cX8_wordOfLength_dX8_wordOfLength_94_3.2.2.2.1
def dX8_wordOfLength_105 := dc_cX8_wordOfLength_dX8_wordOfLength_94_3.2.2.2.2.1
def dX8_wordOfLength_107 := dc_cX8_wordOfLength_dX8_wordOfLength_94_3.2.2.2.2.2.1
def dX8_wordOfLength_109 := dc_cX8_wordOfLength_dX8_wordOfLength_94_3.2.2.2.2.2.2.1
def dX8_wordOfLength_112 := dc_cX8_wordOfLength_dX8_wordOfLength_94_3.2.2.2.2.2.2.2.1
def dX8_wordOfLength_113 := dc_cX8_wordOfLength_dX8_wordOfLength_94_3.2.2.2.2.2.2.2.2.1
def dX8_wordOfLength_115 := dc_cX8_wordOfLength_dX8_wordOfLength_94_3.2.2.2.2.2.2.2.2.2.1
def dX8_wordOfLength_118 := dc_cX8_wordOfLength_dX8_wordOfLength_94_3.2.2.2.2.2.2.2.2.2.2
set_option maxRecDepth 100000 in
theorem db_cX8_wordAt_dX8_wordAt_0_0 : zw [(0, .iload_n 2, 1), (1, .istore_n 3, 1), (2, .iconst 0, 1), (3, .istore 4, 2), (5, .iload 4, 2), (7, .bipush 12, 2), (9, .if_icmp .gt 30, 3), (12, .iload_n 3, 1), (13, .aload_n 0, 1), (14, .iconst 0, 1), (15, .iload 4, 2), (17, .invokevirtual 45, 3), (20, .if_icmp .lt 19, 3), (23, .iload_n 3, 1), (24, .aload_n 0, 1), (25, .iconst 0, 1)] (cX8_wordAt.data.toList.drop 0) 0 = true := by decide +kernel
def dc_cX8_wordAt_dX8_wordAt_0_0 := zw_16 db_cX8_wordAt_dX8_wordAt_0_0
def dX8_wordAt_0 := dc_cX8_wordAt_dX8_wordAt_0_0.1
def dX8_wordAt_1 := dc_cX8_wordAt_dX8_wordAt_0_0.2.1
def dX8_wordAt_2 := dc_cX8_wordAt_dX8_wordAt_0_0.2.2.1
def dX8_wordAt_3 := dc_cX8_wordAt_dX8_wordAt_0_0.2.2.2.1
def dX8_wordAt_5 := dc_cX8_wordAt_dX8_wordAt_0_0.2.2.2.2.1
def dX8_wordAt_7 := dc_cX8_wordAt_dX8_wordAt_0_0.2.2.2.2.2.1
def dX8_wordAt_9 := dc_cX8_wordAt_dX8_wordAt_0_0.2.2.2.2.2.2.1
def dX8_wordAt_12 := dc_cX8_wordAt_dX8_wordAt_0_0.2.2.2.2.2.2.2.1
def dX8_wordAt_13 := dc_cX8_wordAt_dX8_wordAt_0_0.2.2.2.2.2.2.2.2.1
def dX8_wordAt_14 := dc_cX8_wordAt_dX8_wordAt_0_0.2.2.2.2.2.2.2.2.2.1
def dX8_wordAt_15 := dc_cX8_wordAt_dX8_wordAt_0_0.2.2.2.2.2.2.2.2.2.2.1
def dX8_wordAt_17 := dc_cX8_wordAt_dX8_wordAt_0_0.2.2.2.2.2.2.2.2.2.2.2.1
def dX8_wordAt_20 := dc_cX8_wordAt_dX8_wordAt_0_0.2.2.2.2.2.2.2.2.2.2.2.2.1
def dX8_wordAt_23 := dc_cX8_wordAt_dX8_wordAt_0_0.2.2.2.2.2.2.2.2.2.2.2.2.2.1
def dX8_wordAt_24 := dc_cX8_wordAt_dX8_wordAt_0_0.2.2.2.2.2.2.2.2.2.2.2.2.2.2.1
def dX8_wordAt_25 := dc_cX8_wordAt_dX8_wordAt_0_0.2.2.2.2.2.2.2.2.2.2.2.2.2.2.2
set_option maxRecDepth 100000 in
theorem db_cX8_wordAt_dX8_wordAt_26_1 : zw [(26, .iload 4, 2), (28, .invokevirtual 45, 3), (31, .isub, 1), (32, .istore_n 3, 1), (33, .iinc 4 1, 3), (36, .goto (-31), 3), (39, .iload 4, 2), (41, .bipush 12, 2), (43, .if_icmp .le 8, 3), (46, .ldc 48, 2), (48, .goto 11, 3), (51, .aload_n 0, 1), (52, .aload_n 1, 1), (53, .iload 4, 2), (55, .iload_n 3, 1), (56, .invokevirtual 50, 3)] (cX8_wordAt.data.toList.drop 26) 26 = true := by decide +kernel
def dc_cX8_wordAt_dX8_wordAt_26_1 := zw_16 db_cX8_wordAt_dX8_wordAt_26_1
def dX8_wordAt_26 := dc_cX8_wordAt_dX8_wordAt_26_1.1
def dX8_wordAt_28 := dc_cX8_wordAt_dX8_wordAt_26_1.2.1
def dX8_wordAt_31 := dc_cX8_wordAt_dX8_wordAt_26_1.2.2.1
def dX8_wordAt_32 := dc_cX8_wordAt_dX8_wordAt_26_1.2.2.2.1
def dX8_wordAt_33 := dc_cX8_wordAt_dX8_wordAt_26_1.2.2.2.2.1
def dX8_wordAt_36 := dc_cX8_wordAt_dX8_wordAt_26_1.2.2.2.2.2.1
def dX8_wordAt_39 := dc_cX8_wordAt_dX8_wordAt_26_1.2.2.2.2.2.2.1
def dX8_wordAt_41 := dc_cX8_wordAt_dX8_wordAt_26_1.2.2.2.2.2.2.2.1
def dX8_wordAt_43 := dc_cX8_wordAt_dX8_wordAt_26_1.2.2.2.2.2.2.2.2.1
def dX8_wordAt_46 := dc_cX8_wordAt_dX8_wordAt_26_1.2.2.2.2.2.2.2.2.2.1
def dX8_wordAt_48 := dc_cX8_wordAt_dX8_wordAt_26_1.2.2.2.2.2.2.2.2.2.2.1
def dX8_wordAt_51 := dc_cX8_wordAt_dX8_wordAt_26_1.2.2.2.2.2.2.2.2.2.2.2.1
def dX8_wordAt_52 := dc_cX8_wordAt_dX8_wordAt_26_1.2.2.2.2.2.2.2.2.2.2.2.2.1
def dX8_wordAt_53 := dc_cX8_wordAt_dX8_wordAt_26_1.2.2.2.2.2.2.2.2.2.2.2.2.2.1
def dX8_wordAt_55 := dc_cX8_wordAt_dX8_wordAt_26_1.2.2.2.2.2.2.2.2.2.2.2.2.2.2.1
def dX8_wordAt_56 := dc_cX8_wordAt_dX8_wordAt_26_1.2.2.2.2.2.2.2.2.2.2.2.2.2.2.2
set_option maxRecDepth 100000 in
theorem db_cX8_wordAt_dX8_wordAt_59_2 : zw [(59, .areturn, 1)] (cX8_wordAt.data.toList.drop 59) 59 = true := by decide +kernel
def dX8_wordAt_59 := zw_1 db_cX8_wordAt_dX8_wordAt_59_2
theorem jd_26 : (yJ4_init_da8c8 : MethodName).cls ≠ "java/lang/invoke/MethodHandle" ∧ (yJ4_init_da8c8 : MethodName).cls ≠ "java/lang/invoke/VarHandle" ∧ (parseMethodDescriptor (yJ4_init_da8c8 : MethodName).desc).map (fun d => d.parameters.length) = some 0 := by decide +kernel
theorem jd_27 : (yJ4_toString_0e30d : MethodName).cls ≠ "java/lang/invoke/MethodHandle" ∧ (yJ4_toString_0e30d : MethodName).cls ≠ "java/lang/invoke/VarHandle" ∧ (parseMethodDescriptor (yJ4_toString_0e30d : MethodName).desc).map (fun d => d.parameters.length) = some 0 := by decide +kernel
theorem jd_28 : (yX5_isGoal : MethodName).cls ≠ "java/lang/invoke/MethodHandle" ∧ (yX5_isGoal : MethodName).cls ≠ "java/lang/invoke/VarHandle" ∧ (parseMethodDescriptor (yX5_isGoal : MethodName).desc).map (fun d => d.parameters.length) = some 1 := by decide +kernel
theorem jd_29 : (yJ4_append_cf468 : MethodName).cls ≠ "java/lang/invoke/MethodHandle" ∧ (yJ4_append_cf468 : MethodName).cls ≠ "java/lang/invoke/VarHandle" ∧ (parseMethodDescriptor (yJ4_append_cf468 : MethodName).desc).map (fun d => d.parameters.length) = some 1 := by decide +kernel
theorem jd_30 : (yX7_at : MethodName).cls ≠ "java/lang/invoke/MethodHandle" ∧ (yX7_at : MethodName).cls ≠ "java/lang/invoke/VarHandle" ∧ (parseMethodDescriptor (yX7_at : MethodName).desc).map (fun d => d.parameters.length) = some 2 := by decide +kernel
theorem jd_31 : (yJ4_append_bf812 : MethodName).cls ≠ "java/lang/invoke/MethodHandle" ∧ (yJ4_append_bf812 : MethodName).cls ≠ "java/lang/invoke/VarHandle" ∧ (parseMethodDescriptor (yJ4_append_bf812 : MethodName).desc).map (fun d => d.parameters.length) = some 1 := by decide +kernel
theorem jd_32 : (yJ4_reverse_43fcb : MethodName).cls ≠ "java/lang/invoke/MethodHandle" ∧ (yJ4_reverse_43fcb : MethodName).cls ≠ "java/lang/invoke/VarHandle" ∧ (parseMethodDescriptor (yJ4_reverse_43fcb : MethodName).desc).map (fun d => d.parameters.length) = some 0 := by decide +kernel
theorem jd_33 : (yX6_at : MethodName).cls ≠ "java/lang/invoke/MethodHandle" ∧ (yX6_at : MethodName).cls ≠ "java/lang/invoke/VarHandle" ∧ (parseMethodDescriptor (yX6_at : MethodName).desc).map (fun d => d.parameters.length) = some 1 := by decide +kernel
theorem jd_34 : (yX9_letterOf : MethodName).cls ≠ "java/lang/invoke/MethodHandle" ∧ (yX9_letterOf : MethodName).cls ≠ "java/lang/invoke/VarHandle" ∧ (parseMethodDescriptor (yX9_letterOf : MethodName).desc).map (fun d => d.parameters.length) = some 1 := by decide +kernel
theorem jd_35 : (yX8_from : MethodName).cls ≠ "java/lang/invoke/MethodHandle" ∧ (yX8_from : MethodName).cls ≠ "java/lang/invoke/VarHandle" ∧ (parseMethodDescriptor (yX8_from : MethodName).desc).map (fun d => d.parameters.length) = some 2 := by decide +kernel
theorem jd_36 : (yX8_wordOfLength : MethodName).cls ≠ "java/lang/invoke/MethodHandle" ∧ (yX8_wordOfLength : MethodName).cls ≠ "java/lang/invoke/VarHandle" ∧ (parseMethodDescriptor (yX8_wordOfLength : MethodName).desc).map (fun d => d.parameters.length) = some 3 := by decide +kernel
theorem rng4 {x : Int32} (h : rng x) : x = -1 ∨ x = 0 ∨ x = 1 ∨ x = 2 := by
  obtain ⟨h1, h2⟩ := h
  rcases (show x.toInt = -1 ∨ x.toInt = 0 ∨ x.toInt = 1 ∨ x.toInt = 2 by omega) with e | e | e | e
  · exact Or.inl (l_eq.mpr e)
  · exact Or.inr (Or.inl (l_eq.mpr e))
  · exact Or.inr (Or.inr (Or.inl (l_eq.mpr e)))
  · exact Or.inr (Or.inr (Or.inr (l_eq.mpr e)))
theorem lt_wp {x : Int32} (h : rng x) : wp_X9_letterOf x (fun r => ¬ 255 < r) := by
  rcases rng4 h with rfl | rfl | rfl | rfl <;> (unfold wp_X9_letterOf; decide)
theorem g_X6_at42 (μ : TMem) (a1 : Int32) (hG : GB μ) : wp_X6_at 42 μ a1 rng := by
  refine ⟨fun _ => ⟨by decide, by decide⟩, fun h0 => ⟨fun _ => ⟨by decide, by decide⟩, fun h1 => ⟨vp_a h0 h1 (tl_s _), hG _⟩⟩⟩

set_option maxHeartbeats 4000000 in
set_option maxRecDepth 100000 in
theorem c_X5_describe {l : Launch} {D : va_G} {ad : Nat → Nat} {cI cM cB : ClassId} (k0 : Nat) (hk0 : kd k0 = 5) (μ : TMem) (sz : Nat)  (hS : (μ k0 1).toInt ≤ 99) : TS l yX5_describe (.code yX5_describe cX5_describe 4 (Option.some (Jvm.ClassFile.FieldType.object "java/lang/String"))) 6 500 20000 [.ref (ad k0)] D ad cI cM cB sz μ := by
  refine TS_met (by decide +kernel) (Nat.le_of_ble_eq_true rfl) ?_
  intro p e s mI below meth c Z ls hx hb hml hown ht hN hT hI hK hC hZ hR hw hret hl
  have hl : lv_has ls 4 [(0, .ref (ad k0))] := hl
  suffices hh : ∀ (H : Heap) (locs : List Loc), MW D (TRX ad cI cM μ) [] (TA ad s.heap.size) s H locs → W p l e (RA 6 500 20000) s mI #[.ref (ad k0)] below meth c H locs 0 0 Z (F0 mI 0 ls []) from hh _ _ hw
  intro H locs hw
  refine n_newO (fs := [.null, .int 0, .int 0, .int 0]) hx hb ht in_11 tyJ4 tyJ4_ok hown (ht _ q_892) (ht _ q_893) (ht _ q_67) hK hw cl_11 (fun j hj => by rcases (show j = 0 ∨ j = 1 ∨ j = 2 ∨ j = 3 by omega) with rfl | rfl | rfl | rfl <;> rfl) (show 0 + 1 ≤ 500 by omega) (show 0 + 4 ≤ 20000 by omega) dX5_describe_0 (fun q1 H hw => ?_)
  have hw : MW D (TRX ad cI cM μ) [(q1, .inr (11, [.null, .int 0, .int 0, .int 0]))] (TA ad s.heap.size) s H locs := hw
  refine lv_dup hx hb dX5_describe_3 rfl ?_
  refine J_callv (N0 := []) (ws := [(q1, .inr (11, [.null, .int 0, .int 0, .int 0]))]) hw (va_runI (own := "Leastreader$Plain") (As := []) (rest := [.ref q1]) ⟨hx, hb, hml, hown, ht⟩ (c_J4_init_da8c8 q1 H.size) (cwI 0 ht (G_ws q_896) rfl rfl rfl (ht _ q_67) (ht _ q_894) (ht _ q_895) rfl jd_26 ⟨Nat.le_of_ble_eq_true rfl, Nat.le_of_ble_eq_true rfl⟩) ⟨JB.blind, JB.pre (N0 := []) (ws := [(q1, .inr (11, [.null, .int 0, .int 0, .int 0]))]) hK hC hZ hw SL0⟩ rfl rfl hl.1 rfl (lv_room (Nat.le_of_ble_eq_true rfl)) dX5_describe_4 ⟨show 0 + 1 + 1 ≤ 500 by omega, show 0 + 4 + 16 ≤ 20000 by omega⟩) (fun u2 H locs hp3 hw => ?_)
  have hw : MW D (TRX ad cI cM μ) [(q1, .inr (11, [.ref u2, .int 0, .int 0, .int (nI 0)])), (u2, .inl (cB, 16, .inl (fun _ => 0)))] (TA ad s.heap.size) s H locs := hw
  have hB0 : BS 16 0 (0 + 1 + 1) (0 + 4 + 16) := ⟨by omega, by omega, by omega, by omega, by omega⟩
  refine lv_astore_n (lv' := [(1, .ref q1), (0, .ref (ad k0))]) hx hb dX5_describe_7 rfl hl (by decide) rfl (fun ls hl => ?_)
  refine lv_iconst (v := (0 : Int32)) hx hb dX5_describe_8 (by decide) ?_
  refine lv_istore_n (lv' := [(2, .int (0 : Int32)), (1, .ref q1), (0, .ref (ad k0))]) hx hb dX5_describe_9 rfl hl (by decide) rfl (fun ls hl => ?_)
  have L10 : ∀ (k : Nat) (i : Int32) (n v m cv sv : Nat) (f : Nat → Int32) (H : Heap) (locs : List Loc) (ls : Array Slot), ((μ k0 1).toInt - i.toInt).toNat < k → 0 ≤ i.toInt → (n : Int) ≤ 38 * i.toInt → i.toInt ≤ 100 → BS m n cv sv → FT f → MW D (TRX ad cI cM μ) [(q1, .inr (11, [.ref v, .int 0, .int 0, .int (nI n)])), (v, .inl (cB, m, .inl f))] (TA ad s.heap.size) s H locs → lv_has ls 4 [(2, .int i), (0, .ref (ad k0)), (1, .ref q1)] → W p l e (RA 6 500 20000) s mI #[.ref (ad k0)] below meth c H locs cv sv Z (F0 mI 10 ls []) := by
    intro k
    induction k with
    | zero => intro i n v m cv sv f H locs ls hk; exact absurd hk (Nat.not_lt_zero _)
    | succ k ih =>
      intro i n v m cv sv f H locs ls hk hi hn0 hi2 hB hf hw hl
      refine lv_iload_n hx hb dX5_describe_10 rfl (lv_at hl 0 rfl) ?_
      refine lv_aload_n hx hb dX5_describe_11 rfl (lv_at hl 1 rfl) ?_
      refine gf_X5_28 hx hb ht hown hT (MT.tw hI hw) hk0 dX5_describe_12 ?_
      refine lv_icmp_ge (tgt := 85) hx hb dX5_describe_15 (by decide) (fun c9 => ?_) (fun c9 => ?_)
      · refine lv_aload_n hx hb dX5_describe_85 rfl (lv_at hl 2 rfl) ?_
        have hBx := hB
        obtain ⟨_, _, _, _, _⟩ := hBx
        refine J_callr (N0 := []) (ws := [(q1, .inr (11, [.ref v, .int 0, .int 0, .int (nI n)])), (v, .inl (cB, m, .inl f))]) hw (va_runV (own := "Leastreader$Plain") (As := []) (rest := []) ⟨hx, hb, hml, hown, ht⟩ (c_J4_toString_0e30d q1 v m n f H.size (by omega) (by omega) hf) (cwV 0 ht (G_V q_1053 q_1054 q_1055 q_67 q_1056) rfl rfl rfl ⟨rfl, jd_27⟩ ⟨Nat.le_of_ble_eq_true rfl, Nat.le_of_ble_eq_true rfl⟩) ⟨JB.blind, J_recv hK hw (j := 0) rfl cl_11, JB.pre (N0 := []) (ws := [(q1, .inr (11, [.ref v, .int 0, .int 0, .int (nI n)])), (v, .inl (cB, m, .inl f))]) hK hC hZ hw SL0⟩ rfl rfl hl.1 rfl (lv_room (Nat.le_of_ble_eq_true rfl)) dX5_describe_86 ⟨show cv + 2 ≤ 500 by omega, show sv + (n + 4) ≤ 20000 by omega⟩) (fun u5 H locs hp6 hw => ?_)
        have hw : MW D (TRX ad cI cM μ) [(u5.1, .inr (12, [.ref u5.2.1, .int 0, .int 0, .int 0])), (q1, .inr (11, [.ref v, .int 0, .int 0, .int (nI n)])), (v, .inl (cB, m, .inl f)), (u5.2.1, .inl (cB, n, .inl u5.2.2))] (TA ad s.heap.size) s H locs := hw
        exact hret H locs ls 89 _ _ _ _ hw (show cv + 2 ≤ 500 by omega) (show sv + (n + 4) ≤ 20000 by omega) dX5_describe_89
      · have c1 := nle c9
        have ei := inc_i c9
        have J79 : ∀ (n v m cv sv : Nat) (f : Nat → Int32) (H : Heap) (locs : List Loc) (ls : Array Slot), (n : Int) ≤ 38 * i.toInt + 38 → BS m n cv sv → FT f → MW D (TRX ad cI cM μ) [(q1, .inr (11, [.ref v, .int 0, .int 0, .int (nI n)])), (v, .inl (cB, m, .inl f))] (TA ad s.heap.size) s H locs → lv_has ls 4 [(2, .int i), (0, .ref (ad k0)), (1, .ref q1)] → W p l e (RA 6 500 20000) s mI #[.ref (ad k0)] below meth c H locs cv sv Z (F0 mI 79 ls []) := by
          intro  n v m cv sv f H locs ls hn hB hf hw hl
          refine lv_iinc (v := (i + (1 : Int32))) (lv' := [(2, .int (i + (1 : Int32))), (0, .ref (ad k0)), (1, .ref q1)]) hx hb dX5_describe_79 hl (k := 0) rfl rfl (by decide) rfl (fun ls hl => ?_)
          refine lv_goto (tgt := 10) hx hb dX5_describe_82 (by decide) ?_
          exact ih (i + (1 : Int32)) n v m (cv) (sv) f H locs ls (by omega) (by omega) (by omega) (by omega) hB hf hw (lv_sub hl [0, 1, 2] rfl)
        have J29 : ∀ (n v m cv sv : Nat) (f : Nat → Int32) (H : Heap) (locs : List Loc) (ls : Array Slot), (n : Int) ≤ 38 * i.toInt + 1 → BS m n cv sv → FT f → MW D (TRX ad cI cM μ) [(q1, .inr (11, [.ref v, .int 0, .int 0, .int (nI n)])), (v, .inl (cB, m, .inl f))] (TA ad s.heap.size) s H locs → lv_has ls 4 [(2, .int i), (0, .ref (ad k0)), (1, .ref q1)] → W p l e (RA 6 500 20000) s mI #[.ref (ad k0)] below meth c H locs cv sv Z (F0 mI 29 ls []) := by
          intro  n v m cv sv f H locs ls hn hB hf hw hl
          refine lv_iconst (v := (0 : Int32)) hx hb dX5_describe_29 (by decide) ?_
          refine lv_istore_n (lv' := [(3, .int (0 : Int32)), (2, .int i), (0, .ref (ad k0)), (1, .ref q1)]) hx hb dX5_describe_30 rfl hl (by decide) rfl (fun ls hl => ?_)
          have L31 : ∀ (k : Nat) (j : Int32) (n v m cv sv : Nat) (f : Nat → Int32) (H : Heap) (locs : List Loc) (ls : Array Slot), ((3 : Int) - j.toInt).toNat < k → 0 ≤ j.toInt → (n : Int) ≤ 38 * i.toInt + 1 + 12 * j.toInt → j.toInt ≤ 3 → BS m n cv sv → FT f → MW D (TRX ad cI cM μ) [(q1, .inr (11, [.ref v, .int 0, .int 0, .int (nI n)])), (v, .inl (cB, m, .inl f))] (TA ad s.heap.size) s H locs → lv_has ls 4 [(3, .int j), (2, .int i), (0, .ref (ad k0)), (1, .ref q1)] → W p l e (RA 6 500 20000) s mI #[.ref (ad k0)] below meth c H locs cv sv Z (F0 mI 31 ls []) := by
            intro k
            induction k with
            | zero => intro j n v m cv sv f H locs ls hk; exact absurd hk (Nat.not_lt_zero _)
            | succ k ih2 =>
              intro j n v m cv sv f H locs ls hk2 hj hn hj3 hB hf hw hl
              refine lv_iload_n hx hb dX5_describe_31 rfl (lv_at hl 0 rfl) ?_
              refine lv_iconst (v := (3 : Int32)) hx hb dX5_describe_32 (by decide) ?_
              refine lv_icmp_ge (tgt := 64) hx hb dX5_describe_33 (by decide) (fun c9 => ?_) (fun c9 => ?_)
              · refine lv_aload_n hx hb dX5_describe_64 rfl (lv_at hl 2 rfl) ?_
                refine lv_iload_n hx hb dX5_describe_65 rfl (lv_at hl 1 rfl) ?_
                have hBx := hB
                obtain ⟨_, _, _, _, _⟩ := hBx
                refine MT_calli hI hw (va_runV (own := "Leastreader$Plain") (As := [.int i]) (rest := []) ⟨hx, hb, hml, hown, ht⟩ (c_X5_isGoal k0 hk0 μ H.size i (f_X5_isGoal k0 hk0 μ i (Q := fun _ => True) (fun _ _ => trivial))) (cwV 1 ht (G_V q_1052 q_462 q_463 q_53 q_464) rfl rfl rfl ⟨rfl, jd_28⟩ ⟨Nat.le_of_ble_eq_true rfl, Nat.le_of_ble_eq_true rfl⟩) ⟨TB.blind, (T_recv hT (MT.tw hI hw) (kd_of hk0 (by decide)) (ent_5 hk0) cl_5), TB.pre hT hN (MT.tw hI hw)⟩ rfl rfl hl.1 rfl (lv_room (Nat.le_of_ble_eq_true rfl)) dX5_describe_66 ⟨show cv + 0 ≤ 500 by omega, show sv + 0 ≤ 20000 by omega⟩) (fun rg H locs hrg hw => ?_)
                refine lv_if_eq (tgt := 79) hx hb dX5_describe_69 (by decide) (fun c9 => ?_) (fun c9 => ?_)
                · exact J79  n v m (cv) (sv) f H locs ls (by omega) hB hf hw (lv_sub hl [1, 2, 3] rfl)
                · refine lv_aload_n hx hb dX5_describe_72 rfl (lv_at hl 3 rfl) ?_
                  refine lv_bipush (v := (42 : Int32)) hx hb dX5_describe_73 (by decide) ?_
                  have hB8 := BS.add 1 hB
                  have hB8x := hB8
                  obtain ⟨_, _, _, _, _⟩ := hB8x
                  have hBx := hB
                  obtain ⟨_, _, _, _, _⟩ := hBx
                  refine J_callr (N0 := []) (ws := [(q1, .inr (11, [.ref v, .int 0, .int 0, .int (nI n)])), (v, .inl (cB, m, .inl f))]) hw (va_runV (own := "Leastreader$Plain") (As := [.int (42 : Int32)]) (rest := []) ⟨hx, hb, hml, hown, ht⟩ (c_J4_append_cf468 q1 v m n f (42 : Int32) H.size (by omega) (by omega) (by omega) hf (by decide)) (cwV 1 ht (G_V q_923 q_924 q_925 q_67 q_926) rfl rfl rfl ⟨rfl, jd_29⟩ ⟨Nat.le_of_ble_eq_true rfl, Nat.le_of_ble_eq_true rfl⟩) ⟨JB.blind, J_recv hK hw (j := 0) rfl cl_11, JB.pre (N0 := []) (ws := [(q1, .inr (11, [.ref v, .int 0, .int 0, .int (nI n)])), (v, .inl (cB, m, .inl f))]) hK hC hZ hw SL0⟩ rfl rfl hl.1 rfl (lv_room (Nat.le_of_ble_eq_true rfl)) dX5_describe_75 ⟨show cv + (gr (n + 1) m) ≤ 500 by omega, show sv + (gs (n + 1) m) ≤ 20000 by omega⟩) (fun u11 H locs hp12 hw => ?_)
                  obtain ⟨v9, f10⟩ := u11
                  have hw : MW D (TRX ad cI cM μ) [(q1, .inr (11, [.ref v9, .int 0, .int 0, .int (nI (n + 1))])), (v9, .inl (cB, (cap (n + 1) m), .inl f10))] (TA ad s.heap.size) s H locs := hw
                  refine lv_pop hx hb dX5_describe_78 rfl ?_
                  exact J79  (n + 1) v9 (cap (n + 1) m) (cv + (gr (n + 1) m)) (sv + (gs (n + 1) m)) f10 H locs ls (by omega) hB8 hp12 hw (lv_sub hl [1, 2, 3] rfl)
              · have c2 := nle c9
                have ej := inc_i c9
                rw [show (3 : Int32).toInt = 3 from rfl] at c2
                have J47 : ∀ (n v m cv sv : Nat) (f : Nat → Int32) (H : Heap) (locs : List Loc) (ls : Array Slot), (n : Int) ≤ 38 * i.toInt + 2 + 12 * j.toInt → BS m n cv sv → FT f → MW D (TRX ad cI cM μ) [(q1, .inr (11, [.ref v, .int 0, .int 0, .int (nI n)])), (v, .inl (cB, m, .inl f))] (TA ad s.heap.size) s H locs → lv_has ls 4 [(3, .int j), (2, .int i), (0, .ref (ad k0)), (1, .ref q1)] → W p l e (RA 6 500 20000) s mI #[.ref (ad k0)] below meth c H locs cv sv Z (F0 mI 47 ls []) := by
                  intro  n v m cv sv f H locs ls hn2 hB hf hw hl
                  refine lv_aload_n hx hb dX5_describe_47 rfl (lv_at hl 3 rfl) ?_
                  refine lv_aload_n hx hb dX5_describe_48 rfl (lv_at hl 2 rfl) ?_
                  refine lv_iload_n hx hb dX5_describe_49 rfl (lv_at hl 1 rfl) ?_
                  refine lv_iload_n hx hb dX5_describe_50 rfl (lv_at hl 0 rfl) ?_
                  have hBx := hB
                  obtain ⟨_, _, _, _, _⟩ := hBx
                  refine MT_calli hI hw (va_runU (own := "Leastreader$Plain") (As := [.int i, .int j]) (rest := [.ref q1]) ⟨hx, hb, hml, hown, ht⟩ (c_X7_at_5 k0 hk0 μ H.size i j (f_X7_at k0 (Or.inr hk0) μ i j (Q := fun _ => True) (fun _ => trivial))) (va_cwU (owner := "Leastreader$Table") 2 ht (G_U q_539 q_452 q_453 q_416 q_47 q_417) rfl rfl rfl rfl jd_30 ⟨Nat.le_of_ble_eq_true rfl, Nat.le_of_ble_eq_true rfl⟩) ⟨TB.blind, (T_recv hT (MT.tw hI hw) (kd_of hk0 (by decide)) (ent_5 hk0) cl_5), TB.pre hT hN (MT.tw hI hw)⟩ rfl rfl hl.1 rfl (lv_room (Nat.le_of_ble_eq_true rfl)) dX5_describe_51 ⟨show cv + 0 ≤ 500 by omega, show sv + 0 ≤ 20000 by omega⟩) (fun ra H locs hra hw => ?_)
                  have hsk := szk_b ra
                  have hB14 := BS.add (szk ra) hB
                  have hB14x := hB14
                  obtain ⟨_, _, _, _, _⟩ := hB14x
                  have hBx := hB
                  obtain ⟨_, _, _, _, _⟩ := hBx
                  refine J_callr (N0 := []) (ws := [(q1, .inr (11, [.ref v, .int 0, .int 0, .int (nI n)])), (v, .inl (cB, m, .inl f))]) hw (va_runV (own := "Leastreader$Plain") (As := [.int ra]) (rest := []) ⟨hx, hb, hml, hown, ht⟩ (c_J4_append_bf812 q1 v m n f ra H.size (by omega) (by omega) (by omega) hf) (cwV 1 ht (G_V q_1018 q_1019 q_1020 q_67 q_1021) rfl rfl rfl ⟨rfl, jd_31⟩ ⟨Nat.le_of_ble_eq_true rfl, Nat.le_of_ble_eq_true rfl⟩) ⟨JB.blind, J_recv hK hw (j := 0) rfl cl_11, JB.pre (N0 := []) (ws := [(q1, .inr (11, [.ref v, .int 0, .int 0, .int (nI n)])), (v, .inl (cB, m, .inl f))]) hK hC hZ hw SL0⟩ rfl rfl hl.1 rfl (lv_room (Nat.le_of_ble_eq_true rfl)) dX5_describe_54 ⟨show cv + (gr (n + szk ra) m) ≤ 500 by omega, show sv + (gs (n + szk ra) m) ≤ 20000 by omega⟩) (fun u17 H locs hp18 hw => ?_)
                  obtain ⟨v15, f16⟩ := u17
                  have hw : MW D (TRX ad cI cM μ) [(q1, .inr (11, [.ref v15, .int 0, .int 0, .int (nI (n + szk ra))])), (v15, .inl (cB, (cap (n + szk ra) m), .inl f16))] (TA ad s.heap.size) s H locs := hw
                  refine lv_pop hx hb dX5_describe_57 rfl ?_
                  refine lv_iinc (v := (j + (1 : Int32))) (lv' := [(3, .int (j + (1 : Int32))), (2, .int i), (0, .ref (ad k0)), (1, .ref q1)]) hx hb dX5_describe_58 hl (k := 0) rfl rfl (by decide) rfl (fun ls hl => ?_)
                  refine lv_goto (tgt := 31) hx hb dX5_describe_61 (by decide) ?_
                  exact ih2 (j + (1 : Int32)) (n + szk ra) v15 (cap (n + szk ra) m) (cv + (gr (n + szk ra) m)) (sv + (gs (n + szk ra) m)) f16 H locs ls (by omega) (by omega) (by omega) (by omega) hB14 hp18 hw (lv_sub hl [0, 1, 2, 3] rfl)
                refine lv_iload_n hx hb dX5_describe_36 rfl (lv_at hl 0 rfl) ?_
                refine lv_if_le (tgt := 47) hx hb dX5_describe_37 (by decide) (fun c9 => ?_) (fun c9 => ?_)
                · exact J47  n v m (cv) (sv) f H locs ls (by omega) hB hf hw (lv_sub hl [0, 1, 2, 3] rfl)
                · refine lv_aload_n hx hb dX5_describe_40 rfl (lv_at hl 3 rfl) ?_
                  refine lv_bipush (v := (44 : Int32)) hx hb dX5_describe_41 (by decide) ?_
                  have hB20 := BS.add 1 hB
                  have hB20x := hB20
                  obtain ⟨_, _, _, _, _⟩ := hB20x
                  have hBx := hB
                  obtain ⟨_, _, _, _, _⟩ := hBx
                  refine J_callr (N0 := []) (ws := [(q1, .inr (11, [.ref v, .int 0, .int 0, .int (nI n)])), (v, .inl (cB, m, .inl f))]) hw (va_runV (own := "Leastreader$Plain") (As := [.int (44 : Int32)]) (rest := []) ⟨hx, hb, hml, hown, ht⟩ (c_J4_append_cf468 q1 v m n f (44 : Int32) H.size (by omega) (by omega) (by omega) hf (by decide)) (cwV 1 ht (G_V q_923 q_924 q_925 q_67 q_926) rfl rfl rfl ⟨rfl, jd_29⟩ ⟨Nat.le_of_ble_eq_true rfl, Nat.le_of_ble_eq_true rfl⟩) ⟨JB.blind, J_recv hK hw (j := 0) rfl cl_11, JB.pre (N0 := []) (ws := [(q1, .inr (11, [.ref v, .int 0, .int 0, .int (nI n)])), (v, .inl (cB, m, .inl f))]) hK hC hZ hw SL0⟩ rfl rfl hl.1 rfl (lv_room (Nat.le_of_ble_eq_true rfl)) dX5_describe_43 ⟨show cv + (gr (n + 1) m) ≤ 500 by omega, show sv + (gs (n + 1) m) ≤ 20000 by omega⟩) (fun u23 H locs hp24 hw => ?_)
                  obtain ⟨v21, f22⟩ := u23
                  have hw : MW D (TRX ad cI cM μ) [(q1, .inr (11, [.ref v21, .int 0, .int 0, .int (nI (n + 1))])), (v21, .inl (cB, (cap (n + 1) m), .inl f22))] (TA ad s.heap.size) s H locs := hw
                  refine lv_pop hx hb dX5_describe_46 rfl ?_
                  exact J47  (n + 1) v21 (cap (n + 1) m) (cv + (gr (n + 1) m)) (sv + (gs (n + 1) m)) f22 H locs ls (by omega) hB20 hp24 hw (lv_sub hl [0, 1, 2, 3] rfl)
          exact L31 _ (0 : Int32) n v m (cv) (sv) f H locs ls (Nat.lt_succ_self _) (by decide) (by rw [ii_0]; omega) (by decide) hB hf hw (lv_sub hl [0, 1, 2, 3] rfl)
        refine lv_iload_n hx hb dX5_describe_18 rfl (lv_at hl 0 rfl) ?_
        refine lv_if_le (tgt := 29) hx hb dX5_describe_19 (by decide) (fun c9 => ?_) (fun c9 => ?_)
        · exact J29  n v m (cv) (sv) f H locs ls (by omega) hB hf hw (lv_sub hl [0, 1, 2] rfl)
        · refine lv_aload_n hx hb dX5_describe_22 rfl (lv_at hl 2 rfl) ?_
          refine lv_bipush (v := (32 : Int32)) hx hb dX5_describe_23 (by decide) ?_
          have hB26 := BS.add 1 hB
          have hB26x := hB26
          obtain ⟨_, _, _, _, _⟩ := hB26x
          have hBx := hB
          obtain ⟨_, _, _, _, _⟩ := hBx
          refine J_callr (N0 := []) (ws := [(q1, .inr (11, [.ref v, .int 0, .int 0, .int (nI n)])), (v, .inl (cB, m, .inl f))]) hw (va_runV (own := "Leastreader$Plain") (As := [.int (32 : Int32)]) (rest := []) ⟨hx, hb, hml, hown, ht⟩ (c_J4_append_cf468 q1 v m n f (32 : Int32) H.size (by omega) (by omega) (by omega) hf (by decide)) (cwV 1 ht (G_V q_923 q_924 q_925 q_67 q_926) rfl rfl rfl ⟨rfl, jd_29⟩ ⟨Nat.le_of_ble_eq_true rfl, Nat.le_of_ble_eq_true rfl⟩) ⟨JB.blind, J_recv hK hw (j := 0) rfl cl_11, JB.pre (N0 := []) (ws := [(q1, .inr (11, [.ref v, .int 0, .int 0, .int (nI n)])), (v, .inl (cB, m, .inl f))]) hK hC hZ hw SL0⟩ rfl rfl hl.1 rfl (lv_room (Nat.le_of_ble_eq_true rfl)) dX5_describe_25 ⟨show cv + (gr (n + 1) m) ≤ 500 by omega, show sv + (gs (n + 1) m) ≤ 20000 by omega⟩) (fun u29 H locs hp30 hw => ?_)
          obtain ⟨v27, f28⟩ := u29
          have hw : MW D (TRX ad cI cM μ) [(q1, .inr (11, [.ref v27, .int 0, .int 0, .int (nI (n + 1))])), (v27, .inl (cB, (cap (n + 1) m), .inl f28))] (TA ad s.heap.size) s H locs := hw
          refine lv_pop hx hb dX5_describe_28 rfl ?_
          exact J29  (n + 1) v27 (cap (n + 1) m) (cv + (gr (n + 1) m)) (sv + (gs (n + 1) m)) f28 H locs ls (by omega) hB26 hp30 hw (lv_sub hl [0, 1, 2] rfl)
  exact L10 _ (0 : Int32) 0 u2 16 (0 + 1 + 1) (0 + 4 + 16) (fun _ => 0) H locs ls (Nat.lt_succ_self _) (by decide) (by decide) (by decide) hB0 FT0 hw (lv_sub hl [0, 2, 1] rfl)

set_option maxHeartbeats 4000000 in
set_option maxRecDepth 100000 in
theorem c_X4_wordTo {l : Launch} {D : va_G} {ad : Nat → Nat} {cI cM cB : ClassId}  (μ : TMem) (sz : Nat) (a1 : Int32) (hG : GB μ) : TS l yX4_wordTo (.code yX4_wordTo cX4_wordTo 5 (Option.some (Jvm.ClassFile.FieldType.object "java/lang/String"))) 6 500 20000 [.ref (ad 35), .int a1] D ad cI cM cB sz μ := by
  refine TS_met (by decide +kernel) (Nat.le_of_ble_eq_true rfl) ?_
  intro p e s mI below meth c Z ls hx hb hml hown ht hN hT hI hK hC hZ hR hw hret hl
  have hl : lv_has ls 5 [(0, .ref (ad 35)), (1, .int a1)] := hl
  suffices hh : ∀ (H : Heap) (locs : List Loc), MW D (TRX ad cI cM μ) [] (TA ad s.heap.size) s H locs → W p l e (RA 6 500 20000) s mI #[.ref (ad 35), .int a1] below meth c H locs 0 0 Z (F0 mI 0 ls []) from hh _ _ hw
  intro H locs hw
  refine n_newO (fs := [.null, .int 0, .int 0, .int 0]) hx hb ht in_11 tyJ4 tyJ4_ok hown (ht _ q_1250) (ht _ q_893) (ht _ q_67) hK hw cl_11 (fun j hj => by rcases (show j = 0 ∨ j = 1 ∨ j = 2 ∨ j = 3 by omega) with rfl | rfl | rfl | rfl <;> rfl) (show 0 + 1 ≤ 500 by omega) (show 0 + 4 ≤ 20000 by omega) dX4_wordTo_0 (fun q1 H hw => ?_)
  have hw : MW D (TRX ad cI cM μ) [(q1, .inr (11, [.null, .int 0, .int 0, .int 0]))] (TA ad s.heap.size) s H locs := hw
  refine lv_dup hx hb dX4_wordTo_3 rfl ?_
  refine J_callv (N0 := []) (ws := [(q1, .inr (11, [.null, .int 0, .int 0, .int 0]))]) hw (va_runI (own := "Leastreader$Meeting") (As := []) (rest := [.ref q1]) ⟨hx, hb, hml, hown, ht⟩ (c_J4_init_da8c8 q1 H.size) (cwI 0 ht (G_ws q_896) rfl rfl rfl (ht _ q_67) (ht _ q_1251) (ht _ q_895) rfl jd_26 ⟨Nat.le_of_ble_eq_true rfl, Nat.le_of_ble_eq_true rfl⟩) ⟨JB.blind, JB.pre (N0 := []) (ws := [(q1, .inr (11, [.null, .int 0, .int 0, .int 0]))]) hK hC hZ hw SL0⟩ rfl rfl hl.1 rfl (lv_room (Nat.le_of_ble_eq_true rfl)) dX4_wordTo_4 ⟨show 0 + 1 + 1 ≤ 500 by omega, show 0 + 4 + 16 ≤ 20000 by omega⟩) (fun u2 H locs hp3 hw => ?_)
  have hw : MW D (TRX ad cI cM μ) [(q1, .inr (11, [.ref u2, .int 0, .int 0, .int (nI 0)])), (u2, .inl (cB, 16, .inl (fun _ => 0)))] (TA ad s.heap.size) s H locs := hw
  have hB0 : BS 16 0 (0 + 1 + 1) (0 + 4 + 16) := ⟨by omega, by omega, by omega, by omega, by omega⟩
  refine lv_astore_n (lv' := [(2, .ref q1), (0, .ref (ad 35)), (1, .int a1)]) hx hb dX4_wordTo_7 rfl hl (by decide) rfl (fun ls hl => ?_)
  refine lv_aload_n hx hb dX4_wordTo_8 rfl (lv_at hl 0 rfl) ?_
  refine lv_bipush (v := (46 : Int32)) hx hb dX4_wordTo_9 (by decide) ?_
  have hB5 := BS.add 1 hB0
  have hB5x := hB5
  obtain ⟨_, _, _, _, _⟩ := hB5x
  have hBx := hB0
  obtain ⟨_, _, _, _, _⟩ := hBx
  refine J_callr (N0 := []) (ws := [(q1, .inr (11, [.ref u2, .int 0, .int 0, .int (nI 0)])), (u2, .inl (cB, 16, .inl (fun _ => 0)))]) hw (va_runV (own := "Leastreader$Meeting") (As := [.int (46 : Int32)]) (rest := []) ⟨hx, hb, hml, hown, ht⟩ (c_J4_append_cf468 q1 u2 16 0 (fun _ => 0) (46 : Int32) H.size (by omega) (by omega) (by omega) FT0 (by decide)) (cwV 1 ht (G_V q_1252 q_924 q_925 q_67 q_926) rfl rfl rfl ⟨rfl, jd_29⟩ ⟨Nat.le_of_ble_eq_true rfl, Nat.le_of_ble_eq_true rfl⟩) ⟨JB.blind, J_recv hK hw (j := 0) rfl cl_11, JB.pre (N0 := []) (ws := [(q1, .inr (11, [.ref u2, .int 0, .int 0, .int (nI 0)])), (u2, .inl (cB, 16, .inl (fun _ => 0)))]) hK hC hZ hw SL0⟩ rfl rfl hl.1 rfl (lv_room (Nat.le_of_ble_eq_true rfl)) dX4_wordTo_11 ⟨show 0 + 1 + 1 + (gr (0 + 1) 16) ≤ 500 by omega, show 0 + 4 + 16 + (gs (0 + 1) 16) ≤ 20000 by omega⟩) (fun u8 H locs hp9 hw => ?_)
  obtain ⟨v6, f7⟩ := u8
  have hw : MW D (TRX ad cI cM μ) [(q1, .inr (11, [.ref v6, .int 0, .int 0, .int (nI (0 + 1))])), (v6, .inl (cB, (cap (0 + 1) 16), .inl f7))] (TA ad s.heap.size) s H locs := hw
  refine lv_pop hx hb dX4_wordTo_14 rfl ?_
  refine lv_iload_n hx hb dX4_wordTo_15 rfl (lv_at hl 2 rfl) ?_
  refine lv_istore_n (lv' := [(3, .int a1), (2, .ref q1), (0, .ref (ad 35)), (1, .int a1)]) hx hb dX4_wordTo_16 rfl hl (by decide) rfl (fun ls hl => ?_)
  refine lv_iconst (v := (0 : Int32)) hx hb dX4_wordTo_17 (by decide) ?_
  refine lv_istore (lv' := [(4, .int (0 : Int32)), (3, .int a1), (2, .ref q1), (0, .ref (ad 35)), (1, .int a1)]) hx hb dX4_wordTo_18 hl (by decide) rfl (fun ls hl => ?_)
  have L20 : ∀ (k : Nat) (at_ k4 : Int32) (n v m cv sv : Nat) (f : Nat → Int32) (H : Heap) (locs : List Loc) (ls : Array Slot), ((200 : Int) - k4.toInt).toNat < k → 0 ≤ k4.toInt → 1 ≤ n → (n : Int) ≤ 1 + k4.toInt ∧ k4.toInt ≤ 200 → BS m n cv sv → FT f → MW D (TRX ad cI cM μ) [(q1, .inr (11, [.ref v, .int 0, .int 0, .int (nI n)])), (v, .inl (cB, m, .inl f))] (TA ad s.heap.size) s H locs → lv_has ls 5 [(2, .ref q1), (3, .int at_), (4, .int k4), (0, .ref (ad 35))] → W p l e (RA 6 500 20000) s mI #[.ref (ad 35), .int a1] below meth c H locs cv sv Z (F0 mI 20 ls []) := by
    intro k
    induction k with
    | zero => intro at_ k4 n v m cv sv f H locs ls hk; exact absurd hk (Nat.not_lt_zero _)
    | succ k ih =>
      intro at_ k4 n v m cv sv f H locs ls hk h4 hn1 hn2 hB hf hw hl
      have J63 : ∀ (n v m cv sv : Nat) (f : Nat → Int32) (H : Heap) (locs : List Loc) (ls : Array Slot), 1 ≤ n → n ≤ 201 → BS m n cv sv → FT f → MW D (TRX ad cI cM μ) [(q1, .inr (11, [.ref v, .int 0, .int 0, .int (nI n)])), (v, .inl (cB, m, .inl f))] (TA ad s.heap.size) s H locs → lv_has ls 5 [(2, .ref q1)] → W p l e (RA 6 500 20000) s mI #[.ref (ad 35), .int a1] below meth c H locs cv sv Z (F0 mI 63 ls []) := by
        intro  n v m cv sv f H locs ls hn1 hn2 hB hf hw hl
        have hn3 : n ≤ 201 := by omega
        refine lv_aload_n hx hb dX4_wordTo_63 rfl (lv_at hl 0 rfl) ?_
        have hBx := hB
        obtain ⟨_, _, _, _, _⟩ := hBx
        refine J_callr (N0 := []) (ws := [(q1, .inr (11, [.ref v, .int 0, .int 0, .int (nI n)])), (v, .inl (cB, m, .inl f))]) hw (va_runV (own := "Leastreader$Meeting") (As := []) (rest := []) ⟨hx, hb, hml, hown, ht⟩ (c_J4_reverse_43fcb q1 v m n f H.size hn1 (by omega) (by omega) hf) (cwV 0 ht (G_V q_1254 q_1255 q_1256 q_67 q_1257) rfl rfl rfl ⟨rfl, jd_32⟩ ⟨Nat.le_of_ble_eq_true rfl, Nat.le_of_ble_eq_true rfl⟩) ⟨JB.blind, J_recv hK hw (j := 0) rfl cl_11, JB.pre (N0 := []) (ws := [(q1, .inr (11, [.ref v, .int 0, .int 0, .int (nI n)])), (v, .inl (cB, m, .inl f))]) hK hC hZ hw SL0⟩ rfl rfl hl.1 rfl (lv_room (Nat.le_of_ble_eq_true rfl)) dX4_wordTo_64 ⟨show cv + 0 ≤ 500 by omega, show sv + 0 ≤ 20000 by omega⟩) (fun u11 H locs hp12 hw => ?_)
        have hw : MW D (TRX ad cI cM μ) [(q1, .inr (11, [.ref v, .int 0, .int 0, .int (nI n)])), (v, .inl (cB, m, .inl u11))] (TA ad s.heap.size) s H locs := hw
        have hBx := hB
        obtain ⟨_, _, _, _, _⟩ := hBx
        refine J_callr (N0 := []) (ws := [(q1, .inr (11, [.ref v, .int 0, .int 0, .int (nI n)])), (v, .inl (cB, m, .inl u11))]) hw (va_runV (own := "Leastreader$Meeting") (As := []) (rest := []) ⟨hx, hb, hml, hown, ht⟩ (c_J4_toString_0e30d q1 v m n u11 H.size (by omega) (by omega) hp12) (cwV 0 ht (G_V q_1285 q_1054 q_1055 q_67 q_1056) rfl rfl rfl ⟨rfl, jd_27⟩ ⟨Nat.le_of_ble_eq_true rfl, Nat.le_of_ble_eq_true rfl⟩) ⟨JB.blind, J_recv hK hw (j := 0) rfl cl_11, JB.pre (N0 := []) (ws := [(q1, .inr (11, [.ref v, .int 0, .int 0, .int (nI n)])), (v, .inl (cB, m, .inl u11))]) hK hC hZ hw SL0⟩ rfl rfl hl.1 rfl (lv_room (Nat.le_of_ble_eq_true rfl)) dX4_wordTo_67 ⟨show cv + 0 + 2 ≤ 500 by omega, show sv + 0 + (n + 4) ≤ 20000 by omega⟩) (fun u14 H locs hp15 hw => ?_)
        have hw : MW D (TRX ad cI cM μ) [(u14.1, .inr (12, [.ref u14.2.1, .int 0, .int 0, .int 0])), (q1, .inr (11, [.ref v, .int 0, .int 0, .int (nI n)])), (v, .inl (cB, m, .inl u11)), (u14.2.1, .inl (cB, n, .inl u14.2.2))] (TA ad s.heap.size) s H locs := hw
        exact hret H locs ls 70 _ _ _ _ hw (show cv + 0 + 2 ≤ 500 by omega) (show sv + 0 + (n + 4) ≤ 20000 by omega) dX4_wordTo_70
      refine lv_iload hx hb dX4_wordTo_20 (lv_at hl 2 rfl) ?_
      refine lv_sipush (v := (200 : Int32)) hx hb dX4_wordTo_22 (by decide) ?_
      refine lv_icmp_ge (tgt := 63) hx hb dX4_wordTo_25 (by decide) (fun c9 => ?_) (fun c9 => ?_)
      · exact J63  n v m (cv) (sv) f H locs ls (by omega) (by omega) hB hf hw (lv_sub hl [0] rfl)
      · have c1 := nle c9
        have e4 := inc_i c9
        rw [show (200 : Int32).toInt = 200 from rfl] at c1
        refine lv_iload_n hx hb dX4_wordTo_28 rfl (lv_at hl 1 rfl) ?_
        refine lv_if_le (tgt := 63) hx hb dX4_wordTo_29 (by decide) (fun c9 => ?_) (fun c9 => ?_)
        · exact J63  n v m (cv) (sv) f H locs ls (by omega) (by omega) hB hf hw (lv_sub hl [0] rfl)
        · refine lv_aload_n hx hb dX4_wordTo_32 rfl (lv_at hl 0 rfl) ?_
          refine lv_aload_n hx hb dX4_wordTo_33 rfl (lv_at hl 3 rfl) ?_
          refine gf_X4_26 hx hb ht hown hT (MT.tw hI hw) rfl dX4_wordTo_34 ?_
          refine lv_iload_n hx hb dX4_wordTo_37 rfl (lv_at hl 1 rfl) ?_
          have hBx := hB
          obtain ⟨_, _, _, _, _⟩ := hBx
          refine MT_calli hI hw (va_runV (own := "Leastreader$Meeting") (As := [.int at_]) (rest := [.ref q1]) ⟨hx, hb, hml, hown, ht⟩ (c_X6_at 42 rfl μ H.size at_ (g_X6_at42 μ at_ hG)) (cwV 1 ht (G_V q_803 q_399 q_400 q_51 q_401) rfl rfl rfl ⟨rfl, jd_33⟩ ⟨Nat.le_of_ble_eq_true rfl, Nat.le_of_ble_eq_true rfl⟩) ⟨TB.blind, (T_recv hT (MT.tw hI hw) (kd_of rfl (by decide)) (ent_6 rfl) cl_6), TB.pre hT hN (MT.tw hI hw)⟩ rfl rfl hl.1 rfl (lv_room (Nat.le_of_ble_eq_true rfl)) dX4_wordTo_38 ⟨show cv + 0 ≤ 500 by omega, show sv + 0 ≤ 20000 by omega⟩) (fun rs H locs hrs hw => ?_)
          refine P_calli (va_runSN (own := "Leastreader$Meeting") (As := [.int rs]) (rest := [.ref q1]) ⟨hx, hb, hml, hown, ht⟩ (c_X9_letterOf rs (lt_wp hrs)) ⟨va_cnB 1 ht (G_ws q_1224) rfl rfl rfl (nw_1253 hN) (ht _ q_46) jd_34 ⟨Nat.le_of_ble_eq_true rfl, Nat.le_of_ble_eq_true rfl⟩, ht _ q_1223, trivial⟩ ⟨PM_blind, PM_pre⟩ rfl rfl hl.1 rfl (lv_room (Nat.le_of_ble_eq_true rfl)) dX4_wordTo_41 ⟨show cv + 0 ≤ 500 by omega, show sv + 0 ≤ 20000 by omega⟩) (fun r17 hr17 => ?_)
          have hB18 := BS.add 1 hB
          have hB18x := hB18
          obtain ⟨_, _, _, _, _⟩ := hB18x
          have hBx := hB
          obtain ⟨_, _, _, _, _⟩ := hBx
          refine J_callr (N0 := []) (ws := [(q1, .inr (11, [.ref v, .int 0, .int 0, .int (nI n)])), (v, .inl (cB, m, .inl f))]) hw (va_runV (own := "Leastreader$Meeting") (As := [.int r17]) (rest := []) ⟨hx, hb, hml, hown, ht⟩ (c_J4_append_cf468 q1 v m n f r17 H.size (by omega) (by omega) (by omega) hf hr17) (cwV 1 ht (G_V q_1252 q_924 q_925 q_67 q_926) rfl rfl rfl ⟨rfl, jd_29⟩ ⟨Nat.le_of_ble_eq_true rfl, Nat.le_of_ble_eq_true rfl⟩) ⟨JB.blind, J_recv hK hw (j := 0) rfl cl_11, JB.pre (N0 := []) (ws := [(q1, .inr (11, [.ref v, .int 0, .int 0, .int (nI n)])), (v, .inl (cB, m, .inl f))]) hK hC hZ hw SL0⟩ rfl rfl hl.1 rfl (lv_room (Nat.le_of_ble_eq_true rfl)) dX4_wordTo_44 ⟨show cv + (gr (n + 1) m) ≤ 500 by omega, show sv + (gs (n + 1) m) ≤ 20000 by omega⟩) (fun u21 H locs hp22 hw => ?_)
          obtain ⟨v19, f20⟩ := u21
          have hw : MW D (TRX ad cI cM μ) [(q1, .inr (11, [.ref v19, .int 0, .int 0, .int (nI (n + 1))])), (v19, .inl (cB, (cap (n + 1) m), .inl f20))] (TA ad s.heap.size) s H locs := hw
          refine lv_pop hx hb dX4_wordTo_47 rfl ?_
          refine lv_aload_n hx hb dX4_wordTo_48 rfl (lv_at hl 3 rfl) ?_
          refine gf_X4_23 hx hb ht hown hT (MT.tw hI hw) rfl dX4_wordTo_49 ?_
          refine lv_iload_n hx hb dX4_wordTo_52 rfl (lv_at hl 1 rfl) ?_
          have hBx := hB18
          obtain ⟨_, _, _, _, _⟩ := hBx
          refine MT_calli hI hw (va_runV (own := "Leastreader$Meeting") (As := [.int at_]) (rest := []) ⟨hx, hb, hml, hown, ht⟩ (c_X6_at 40 rfl μ H.size at_ (f_X6_at 40 rfl μ at_ (Q := fun _ => True) (fun _ => trivial))) (cwV 1 ht (G_V q_803 q_399 q_400 q_51 q_401) rfl rfl rfl ⟨rfl, jd_33⟩ ⟨Nat.le_of_ble_eq_true rfl, Nat.le_of_ble_eq_true rfl⟩) ⟨TB.blind, (T_recv hT (MT.tw hI hw) (kd_of rfl (by decide)) (ent_6 rfl) cl_6), TB.pre hT hN (MT.tw hI hw)⟩ rfl rfl hl.1 rfl (lv_room (Nat.le_of_ble_eq_true rfl)) dX4_wordTo_53 ⟨show cv + (gr (n + 1) m) + 0 ≤ 500 by omega, show sv + (gs (n + 1) m) + 0 ≤ 20000 by omega⟩) (fun rt H locs hrt hw => ?_)
          refine lv_istore_n (lv' := [(3, .int rt), (2, .ref q1), (4, .int k4), (0, .ref (ad 35))]) hx hb dX4_wordTo_56 rfl hl (by decide) rfl (fun ls hl => ?_)
          refine lv_iinc (v := (k4 + (1 : Int32))) (lv' := [(4, .int (k4 + (1 : Int32))), (3, .int rt), (2, .ref q1), (0, .ref (ad 35))]) hx hb dX4_wordTo_57 hl (k := 2) rfl rfl (by decide) rfl (fun ls hl => ?_)
          refine lv_goto (tgt := 20) hx hb dX4_wordTo_60 (by decide) ?_
          exact ih rt (k4 + (1 : Int32)) (n + 1) v19 (cap (n + 1) m) (cv + (gr (n + 1) m)) (sv + (gs (n + 1) m)) f20 H locs ls (by omega) (by omega) (by omega) (by omega) hB18 hp22 hw (lv_sub hl [2, 1, 0, 3] rfl)
  exact L20 _ a1 (0 : Int32) (0 + 1) v6 (cap (0 + 1) 16) (0 + 1 + 1 + (gr (0 + 1) 16)) (0 + 4 + 16 + (gs (0 + 1) 16)) f7 H locs ls (Nat.lt_succ_self _) (by decide) (by omega) ⟨by rw [ii_0]; omega, by decide⟩ hB5 hp9 hw (lv_sub hl [2, 1, 0, 3] rfl)

set_option maxHeartbeats 4000000 in
set_option maxRecDepth 100000 in
theorem c_X8_wordOfLength {l : Launch} {D : va_G} {ad : Nat → Nat} {cI cM cB : ClassId} (k0 : Nat) (hk0 : kd k0 = 5) (μ : TMem) (sz : Nat) (a2 a3 : Int32) (h0 : 0 ≤ a2.toInt) (h12 : a2.toInt ≤ 12) : TS l yX8_wordOfLength (.code yX8_wordOfLength cX8_wordOfLength 9 (Option.some (Jvm.ClassFile.FieldType.object "java/lang/String"))) 6 500 20000 [.ref (ad 48), .ref (ad k0), .int a2, .int a3] D ad cI cM cB sz μ := by
  refine TS_met (by decide +kernel) (Nat.le_of_ble_eq_true rfl) ?_
  intro p e s mI below meth c Z ls hx hb hml hown ht hN hT hI hK hC hZ hR hw hret hl
  have hl : lv_has ls 9 [(0, .ref (ad 48)), (1, .ref (ad k0)), (2, .int a2), (3, .int a3)] := hl
  suffices hh : ∀ (H : Heap) (locs : List Loc), MW D (TRX ad cI cM μ) [] (TA ad s.heap.size) s H locs → W p l e (RA 6 500 20000) s mI #[.ref (ad 48), .ref (ad k0), .int a2, .int a3] below meth c H locs 0 0 Z (F0 mI 0 ls []) from hh _ _ hw
  intro H locs hw
  refine n_newO (fs := [.null, .int 0, .int 0, .int 0]) hx hb ht in_11 tyJ4 tyJ4_ok hown (ht _ q_1220) (ht _ q_893) (ht _ q_67) hK hw cl_11 (fun j hj => by rcases (show j = 0 ∨ j = 1 ∨ j = 2 ∨ j = 3 by omega) with rfl | rfl | rfl | rfl <;> rfl) (show 0 + 1 ≤ 500 by omega) (show 0 + 4 ≤ 20000 by omega) dX8_wordOfLength_0 (fun q1 H hw => ?_)
  have hw : MW D (TRX ad cI cM μ) [(q1, .inr (11, [.null, .int 0, .int 0, .int 0]))] (TA ad s.heap.size) s H locs := hw
  refine lv_dup hx hb dX8_wordOfLength_3 rfl ?_
  refine J_callv (N0 := []) (ws := [(q1, .inr (11, [.null, .int 0, .int 0, .int 0]))]) hw (va_runI (own := "Leastreader$Tails") (As := []) (rest := [.ref q1]) ⟨hx, hb, hml, hown, ht⟩ (c_J4_init_da8c8 q1 H.size) (cwI 0 ht (G_ws q_896) rfl rfl rfl (ht _ q_67) (ht _ q_1221) (ht _ q_895) rfl jd_26 ⟨Nat.le_of_ble_eq_true rfl, Nat.le_of_ble_eq_true rfl⟩) ⟨JB.blind, JB.pre (N0 := []) (ws := [(q1, .inr (11, [.null, .int 0, .int 0, .int 0]))]) hK hC hZ hw SL0⟩ rfl rfl hl.1 rfl (lv_room (Nat.le_of_ble_eq_true rfl)) dX8_wordOfLength_4 ⟨show 0 + 1 + 1 ≤ 500 by omega, show 0 + 4 + 16 ≤ 20000 by omega⟩) (fun u2 H locs hp3 hw => ?_)
  have hw : MW D (TRX ad cI cM μ) [(q1, .inr (11, [.ref u2, .int 0, .int 0, .int (nI 0)])), (u2, .inl (cB, 16, .inl (fun _ => 0)))] (TA ad s.heap.size) s H locs := hw
  have hB0 : BS 16 0 (0 + 1 + 1) (0 + 4 + 16) := ⟨by omega, by omega, by omega, by omega, by omega⟩
  refine lv_astore (lv' := [(4, .ref q1), (0, .ref (ad 48)), (1, .ref (ad k0)), (2, .int a2), (3, .int a3)]) hx hb dX8_wordOfLength_7 hl (by decide) rfl (fun ls hl => ?_)
  refine lv_iload_n hx hb dX8_wordOfLength_9 rfl (lv_at hl 4 rfl) ?_
  refine lv_istore (lv' := [(5, .int a3), (4, .ref q1), (0, .ref (ad 48)), (1, .ref (ad k0)), (2, .int a2), (3, .int a3)]) hx hb dX8_wordOfLength_10 hl (by decide) rfl (fun ls hl => ?_)
  refine lv_iconst (v := (0 : Int32)) hx hb dX8_wordOfLength_12 (by decide) ?_
  refine lv_istore (lv' := [(6, .int (0 : Int32)), (5, .int a3), (4, .ref q1), (0, .ref (ad 48)), (1, .ref (ad k0)), (2, .int a2), (3, .int a3)]) hx hb dX8_wordOfLength_13 hl (by decide) rfl (fun ls hl => ?_)
  refine lv_iload_n hx hb dX8_wordOfLength_15 rfl (lv_at hl 5 rfl) ?_
  refine lv_iconst (v := (1 : Int32)) hx hb dX8_wordOfLength_16 (by decide) ?_
  refine lv_isub hx hb dX8_wordOfLength_17 ?_
  refine lv_topi (fun x7 e7 => ?_)
  have h7 : x7.toInt = a2.toInt - 1 := by rw [e7]; exact ii_s rfl rfl (by omega) (by omega)
  refine lv_istore (lv' := [(7, .int x7), (6, .int (0 : Int32)), (5, .int a3), (4, .ref q1), (0, .ref (ad 48)), (1, .ref (ad k0)), (2, .int a2), (3, .int a3)]) hx hb dX8_wordOfLength_18 hl (by decide) rfl (fun ls hl => ?_)
  have L20 : ∀ (k : Nat) (bf sta rs : Int32) (n v m cv sv : Nat) (f : Nat → Int32) (H : Heap) (locs : List Loc) (ls : Array Slot), (rs.toInt + 1).toNat < k → -1 ≤ rs.toInt → (n : Int) + rs.toInt ≤ 12 → BS m n cv sv → FT f → MW D (TRX ad cI cM μ) [(q1, .inr (11, [.ref v, .int 0, .int 0, .int (nI n)])), (v, .inl (cB, m, .inl f))] (TA ad s.heap.size) s H locs → lv_has ls 9 [(5, .int bf), (6, .int sta), (7, .int rs), (0, .ref (ad 48)), (1, .ref (ad k0)), (4, .ref q1)] → W p l e (RA 6 500 20000) s mI #[.ref (ad 48), .ref (ad k0), .int a2, .int a3] below meth c H locs cv sv Z (F0 mI 20 ls []) := by
    intro k
    induction k with
    | zero => intro bf sta rs n v m cv sv f H locs ls hk; exact absurd hk (Nat.not_lt_zero _)
    | succ k ih =>
      intro bf sta rs n v m cv sv f H locs ls hk hrs1 hn0 hB hf hw hl
      refine lv_iload hx hb dX8_wordOfLength_20 (lv_at hl 2 rfl) ?_
      refine lv_if_lt (tgt := 105) hx hb dX8_wordOfLength_22 (by decide) (fun c9 => ?_) (fun c9 => ?_)
      · refine lv_aload hx hb dX8_wordOfLength_105 (lv_at hl 5 rfl) ?_
        refine lv_bipush (v := (46 : Int32)) hx hb dX8_wordOfLength_107 (by decide) ?_
        have hB5 := BS.add 1 hB
        have hB5x := hB5
        obtain ⟨_, _, _, _, _⟩ := hB5x
        have hBx := hB
        obtain ⟨_, _, _, _, _⟩ := hBx
        refine J_callr (N0 := []) (ws := [(q1, .inr (11, [.ref v, .int 0, .int 0, .int (nI n)])), (v, .inl (cB, m, .inl f))]) hw (va_runV (own := "Leastreader$Tails") (As := [.int (46 : Int32)]) (rest := []) ⟨hx, hb, hml, hown, ht⟩ (c_J4_append_cf468 q1 v m n f (46 : Int32) H.size (by omega) (by omega) (by omega) hf (by decide)) (cwV 1 ht (G_V q_1225 q_924 q_925 q_67 q_926) rfl rfl rfl ⟨rfl, jd_29⟩ ⟨Nat.le_of_ble_eq_true rfl, Nat.le_of_ble_eq_true rfl⟩) ⟨JB.blind, J_recv hK hw (j := 0) rfl cl_11, JB.pre (N0 := []) (ws := [(q1, .inr (11, [.ref v, .int 0, .int 0, .int (nI n)])), (v, .inl (cB, m, .inl f))]) hK hC hZ hw SL0⟩ rfl rfl hl.1 rfl (lv_room (Nat.le_of_ble_eq_true rfl)) dX8_wordOfLength_109 ⟨show cv + (gr (n + 1) m) ≤ 500 by omega, show sv + (gs (n + 1) m) ≤ 20000 by omega⟩) (fun u8 H locs hp9 hw => ?_)
        obtain ⟨v6, f7⟩ := u8
        have hw : MW D (TRX ad cI cM μ) [(q1, .inr (11, [.ref v6, .int 0, .int 0, .int (nI (n + 1))])), (v6, .inl (cB, (cap (n + 1) m), .inl f7))] (TA ad s.heap.size) s H locs := hw
        refine lv_pop hx hb dX8_wordOfLength_112 rfl ?_
        refine lv_aload hx hb dX8_wordOfLength_113 (lv_at hl 5 rfl) ?_
        have hBx := hB5
        obtain ⟨_, _, _, _, _⟩ := hBx
        refine J_callr (N0 := []) (ws := [(q1, .inr (11, [.ref v6, .int 0, .int 0, .int (nI (n + 1))])), (v6, .inl (cB, (cap (n + 1) m), .inl f7))]) hw (va_runV (own := "Leastreader$Tails") (As := []) (rest := []) ⟨hx, hb, hml, hown, ht⟩ (c_J4_toString_0e30d q1 v6 (cap (n + 1) m) (n + 1) f7 H.size (by omega) (by omega) hp9) (cwV 0 ht (G_V q_1226 q_1054 q_1055 q_67 q_1056) rfl rfl rfl ⟨rfl, jd_27⟩ ⟨Nat.le_of_ble_eq_true rfl, Nat.le_of_ble_eq_true rfl⟩) ⟨JB.blind, J_recv hK hw (j := 0) rfl cl_11, JB.pre (N0 := []) (ws := [(q1, .inr (11, [.ref v6, .int 0, .int 0, .int (nI (n + 1))])), (v6, .inl (cB, (cap (n + 1) m), .inl f7))]) hK hC hZ hw SL0⟩ rfl rfl hl.1 rfl (lv_room (Nat.le_of_ble_eq_true rfl)) dX8_wordOfLength_115 ⟨show cv + (gr (n + 1) m) + 2 ≤ 500 by omega, show sv + (gs (n + 1) m) + ((n + 1) + 4) ≤ 20000 by omega⟩) (fun u11 H locs hp12 hw => ?_)
        have hw : MW D (TRX ad cI cM μ) [(u11.1, .inr (12, [.ref u11.2.1, .int 0, .int 0, .int 0])), (q1, .inr (11, [.ref v6, .int 0, .int 0, .int (nI (n + 1))])), (v6, .inl (cB, (cap (n + 1) m), .inl f7)), (u11.2.1, .inl (cB, (n + 1), .inl u11.2.2))] (TA ad s.heap.size) s H locs := hw
        exact hret H locs ls 118 _ _ _ _ hw (show cv + (gr (n + 1) m) + 2 ≤ 500 by omega) (show sv + (gs (n + 1) m) + ((n + 1) + 4) ≤ 20000 by omega) dX8_wordOfLength_118
      · have hr0 : 0 ≤ rs.toInt := by rw [Int32.lt_iff_toInt_lt, Int32.toInt_zero] at c9; omega
        have L28 : ∀ (k : Nat) (bf sg : Int32) (n v m cv sv : Nat) (f : Nat → Int32) (H : Heap) (locs : List Loc) (ls : Array Slot), ((2 : Int) - sg.toInt).toNat < k → rng sg ∧ 0 ≤ sg.toInt → (n : Int) + rs.toInt ≤ 12 → BS m n cv sv → FT f → MW D (TRX ad cI cM μ) [(q1, .inr (11, [.ref v, .int 0, .int 0, .int (nI n)])), (v, .inl (cB, m, .inl f))] (TA ad s.heap.size) s H locs → lv_has ls 9 [(5, .int bf), (6, .int sta), (7, .int rs), (8, .int sg), (0, .ref (ad 48)), (1, .ref (ad k0)), (4, .ref q1)] → W p l e (RA 6 500 20000) s mI #[.ref (ad 48), .ref (ad k0), .int a2, .int a3] below meth c H locs cv sv Z (F0 mI 28 ls []) := by
          intro k
          induction k with
          | zero => intro bf sg n v m cv sv f H locs ls hk; exact absurd hk (Nat.not_lt_zero _)
          | succ k ih2 =>
            intro bf sg n v m cv sv f H locs ls hk2 hsgx hn8 hB hf hw hl
            obtain ⟨hsg, hsg0⟩ := hsgx
            have J78 : ∀ (bf : Int32) (n v m cv sv : Nat) (f : Nat → Int32) (H : Heap) (locs : List Loc) (ls : Array Slot), (n : Int) + rs.toInt ≤ 12 → BS m n cv sv → FT f → MW D (TRX ad cI cM μ) [(q1, .inr (11, [.ref v, .int 0, .int 0, .int (nI n)])), (v, .inl (cB, m, .inl f))] (TA ad s.heap.size) s H locs → lv_has ls 9 [(5, .int bf), (6, .int sta), (7, .int rs), (8, .int sg), (0, .ref (ad 48)), (1, .ref (ad k0)), (4, .ref q1)] → W p l e (RA 6 500 20000) s mI #[.ref (ad 48), .ref (ad k0), .int a2, .int a3] below meth c H locs cv sv Z (F0 mI 78 ls []) := by
              intro bf n v m cv sv f H locs ls hn9 hB hf hw hl
              refine lv_aload hx hb dX8_wordOfLength_78 (lv_at hl 6 rfl) ?_
              refine lv_iload hx hb dX8_wordOfLength_80 (lv_at hl 3 rfl) ?_
              have hBx := hB
              obtain ⟨_, _, _, _, _⟩ := hBx
              refine P_calli (va_runSN (own := "Leastreader$Tails") (As := [.int sg]) (rest := [.ref q1]) ⟨hx, hb, hml, hown, ht⟩ (c_X9_letterOf sg (lt_wp hsg)) ⟨va_cnB 1 ht (G_ws q_1224) rfl rfl rfl (nw_1222 hN) (ht _ q_46) jd_34 ⟨Nat.le_of_ble_eq_true rfl, Nat.le_of_ble_eq_true rfl⟩, ht _ q_1223, trivial⟩ ⟨PM_blind, PM_pre⟩ rfl rfl hl.1 rfl (lv_room (Nat.le_of_ble_eq_true rfl)) dX8_wordOfLength_82 ⟨show cv + 0 ≤ 500 by omega, show sv + 0 ≤ 20000 by omega⟩) (fun r14 hr14 => ?_)
              have hB15 := BS.add 1 hB
              have hB15x := hB15
              obtain ⟨_, _, _, _, _⟩ := hB15x
              have hBx := hB
              obtain ⟨_, _, _, _, _⟩ := hBx
              refine J_callr (N0 := []) (ws := [(q1, .inr (11, [.ref v, .int 0, .int 0, .int (nI n)])), (v, .inl (cB, m, .inl f))]) hw (va_runV (own := "Leastreader$Tails") (As := [.int r14]) (rest := []) ⟨hx, hb, hml, hown, ht⟩ (c_J4_append_cf468 q1 v m n f r14 H.size (by omega) (by omega) (by omega) hf hr14) (cwV 1 ht (G_V q_1225 q_924 q_925 q_67 q_926) rfl rfl rfl ⟨rfl, jd_29⟩ ⟨Nat.le_of_ble_eq_true rfl, Nat.le_of_ble_eq_true rfl⟩) ⟨JB.blind, J_recv hK hw (j := 0) rfl cl_11, JB.pre (N0 := []) (ws := [(q1, .inr (11, [.ref v, .int 0, .int 0, .int (nI n)])), (v, .inl (cB, m, .inl f))]) hK hC hZ hw SL0⟩ rfl rfl hl.1 rfl (lv_room (Nat.le_of_ble_eq_true rfl)) dX8_wordOfLength_85 ⟨show cv + (gr (n + 1) m) ≤ 500 by omega, show sv + (gs (n + 1) m) ≤ 20000 by omega⟩) (fun u18 H locs hp19 hw => ?_)
              obtain ⟨v16, f17⟩ := u18
              have hw : MW D (TRX ad cI cM μ) [(q1, .inr (11, [.ref v16, .int 0, .int 0, .int (nI (n + 1))])), (v16, .inl (cB, (cap (n + 1) m), .inl f17))] (TA ad s.heap.size) s H locs := hw
              refine lv_pop hx hb dX8_wordOfLength_88 rfl ?_
              refine lv_aload_n hx hb dX8_wordOfLength_89 rfl (lv_at hl 5 rfl) ?_
              refine lv_iload hx hb dX8_wordOfLength_90 (lv_at hl 1 rfl) ?_
              refine lv_iload hx hb dX8_wordOfLength_92 (lv_at hl 3 rfl) ?_
              have hBx := hB15
              obtain ⟨_, _, _, _, _⟩ := hBx
              refine MT_calli hI hw (va_runU (own := "Leastreader$Tails") (As := [.int sta, .int sg]) (rest := []) ⟨hx, hb, hml, hown, ht⟩ (c_X7_at_5 k0 hk0 μ H.size sta sg (f_X7_at k0 (Or.inr hk0) μ sta sg (Q := fun _ => True) (fun _ => trivial))) (va_cwU (owner := "Leastreader$Table") 2 ht (G_U q_1196 q_452 q_453 q_416 q_47 q_417) rfl rfl rfl rfl jd_30 ⟨Nat.le_of_ble_eq_true rfl, Nat.le_of_ble_eq_true rfl⟩) ⟨TB.blind, (T_recv hT (MT.tw hI hw) (kd_of hk0 (by decide)) (ent_5 hk0) cl_5), TB.pre hT hN (MT.tw hI hw)⟩ rfl rfl hl.1 rfl (lv_room (Nat.le_of_ble_eq_true rfl)) dX8_wordOfLength_94 ⟨show cv + (gr (n + 1) m) + 0 ≤ 500 by omega, show sv + (gs (n + 1) m) + 0 ≤ 20000 by omega⟩) (fun rn9 H locs hrn9 hw => ?_)
              refine lv_istore (lv' := [(6, .int rn9), (5, .int bf), (7, .int rs), (8, .int sg), (0, .ref (ad 48)), (1, .ref (ad k0)), (4, .ref q1)]) hx hb dX8_wordOfLength_97 hl (by decide) rfl (fun ls hl => ?_)
              obtain ⟨r2, er2⟩ : ∃ z, rs + Int32.ofInt (-1) = z := ⟨_, rfl⟩
              have hr2 : r2.toInt = rs.toInt - 1 := by
                rw [← er2, show Int32.ofInt (-1) = -1 from rfl, ← Int32.sub_eq_add_neg]
                exact ii_s rfl rfl (by omega) (by omega)
              refine lv_iinc (v := r2) (lv' := [(7, .int r2), (6, .int rn9), (5, .int bf), (8, .int sg), (0, .ref (ad 48)), (1, .ref (ad k0)), (4, .ref q1)]) hx hb dX8_wordOfLength_99 hl (k := 2) rfl er2 (by decide) rfl (fun ls hl => ?_)
              refine lv_goto (tgt := 20) hx hb dX8_wordOfLength_102 (by decide) ?_
              exact ih bf rn9 r2 (n + 1) v16 (cap (n + 1) m) (cv + (gr (n + 1) m)) (sv + (gs (n + 1) m)) f17 H locs ls (by omega) (by omega) (by omega) hB15 hp19 hw (lv_sub hl [2, 1, 0, 4, 5, 6] rfl)
            refine lv_iload hx hb dX8_wordOfLength_28 (lv_at hl 3 rfl) ?_
            refine lv_iconst (v := (2 : Int32)) hx hb dX8_wordOfLength_30 (by decide) ?_
            refine lv_icmp_ge (tgt := 78) hx hb dX8_wordOfLength_31 (by decide) (fun c9 => ?_) (fun c9 => ?_)
            · exact J78 bf n v m (cv) (sv) f H locs ls (by omega) hB hf hw (lv_sub hl [0, 1, 2, 3, 4, 5, 6] rfl)
            · have c2 := nle c9
              have e8 := inc_i c9
              rw [show (2 : Int32).toInt = 2 from rfl] at c2
              refine lv_iload hx hb dX8_wordOfLength_34 (lv_at hl 0 rfl) ?_
              refine lv_aload_n hx hb dX8_wordOfLength_36 rfl (lv_at hl 4 rfl) ?_
              refine lv_aload_n hx hb dX8_wordOfLength_37 rfl (lv_at hl 5 rfl) ?_
              refine lv_iload hx hb dX8_wordOfLength_38 (lv_at hl 1 rfl) ?_
              refine lv_iload hx hb dX8_wordOfLength_40 (lv_at hl 3 rfl) ?_
              have hBx := hB
              obtain ⟨_, _, _, _, _⟩ := hBx
              refine MT_calli hI hw (va_runU (own := "Leastreader$Tails") (As := [.int sta, .int sg]) (rest := [.ref (ad 48), .int bf]) ⟨hx, hb, hml, hown, ht⟩ (c_X7_at_5 k0 hk0 μ H.size sta sg (f_X7_at k0 (Or.inr hk0) μ sta sg (Q := fun _ => True) (fun _ => trivial))) (va_cwU (owner := "Leastreader$Table") 2 ht (G_U q_1196 q_452 q_453 q_416 q_47 q_417) rfl rfl rfl rfl jd_30 ⟨Nat.le_of_ble_eq_true rfl, Nat.le_of_ble_eq_true rfl⟩) ⟨TB.blind, (T_recv hT (MT.tw hI hw) (kd_of hk0 (by decide)) (ent_5 hk0) cl_5), TB.pre hT hN (MT.tw hI hw)⟩ rfl rfl hl.1 rfl (lv_room (Nat.le_of_ble_eq_true rfl)) dX8_wordOfLength_42 ⟨show cv + 0 ≤ 500 by omega, show sv + 0 ≤ 20000 by omega⟩) (fun rp1 H locs hrp1 hw => ?_)
              refine lv_iload hx hb dX8_wordOfLength_45 (lv_at hl 2 rfl) ?_
              refine MT_calli hI hw (va_runV (own := "Leastreader$Tails") (As := [.int rp1, .int rs]) (rest := [.int bf]) ⟨hx, hb, hml, hown, ht⟩ (c_X8_from  μ H.size rp1 rs (f_X8_from μ rp1 rs (Q := fun _ => True) (fun _ => trivial))) (cwV 2 ht (G_V q_1197 q_1198 q_1199 q_55 q_1200) rfl rfl rfl ⟨rfl, jd_35⟩ ⟨Nat.le_of_ble_eq_true rfl, Nat.le_of_ble_eq_true rfl⟩) ⟨TB.blind, (T_recv hT (MT.tw hI hw) (kd_of rfl (by decide)) (ent_7 rfl) cl_7), TB.pre hT hN (MT.tw hI hw)⟩ rfl rfl hl.1 rfl (lv_room (Nat.le_of_ble_eq_true rfl)) dX8_wordOfLength_47 ⟨show cv + 0 ≤ 500 by omega, show sv + 0 ≤ 20000 by omega⟩) (fun rp2 H locs hrp2 hw => ?_)
              refine lv_icmp_lt (tgt := 78) hx hb dX8_wordOfLength_50 (by decide) (fun c9 => ?_) (fun c9 => ?_)
              · exact J78 bf n v m (cv) (sv) f H locs ls (by omega) hB hf hw (lv_sub hl [0, 1, 2, 3, 4, 5, 6] rfl)
              · refine lv_iload hx hb dX8_wordOfLength_53 (lv_at hl 0 rfl) ?_
                refine lv_aload_n hx hb dX8_wordOfLength_55 rfl (lv_at hl 4 rfl) ?_
                refine lv_aload_n hx hb dX8_wordOfLength_56 rfl (lv_at hl 5 rfl) ?_
                refine lv_iload hx hb dX8_wordOfLength_57 (lv_at hl 1 rfl) ?_
                refine lv_iload hx hb dX8_wordOfLength_59 (lv_at hl 3 rfl) ?_
                refine MT_calli hI hw (va_runU (own := "Leastreader$Tails") (As := [.int sta, .int sg]) (rest := [.ref (ad 48), .int bf]) ⟨hx, hb, hml, hown, ht⟩ (c_X7_at_5 k0 hk0 μ H.size sta sg (f_X7_at k0 (Or.inr hk0) μ sta sg (Q := fun _ => True) (fun _ => trivial))) (va_cwU (owner := "Leastreader$Table") 2 ht (G_U q_1196 q_452 q_453 q_416 q_47 q_417) rfl rfl rfl rfl jd_30 ⟨Nat.le_of_ble_eq_true rfl, Nat.le_of_ble_eq_true rfl⟩) ⟨TB.blind, (T_recv hT (MT.tw hI hw) (kd_of hk0 (by decide)) (ent_5 hk0) cl_5), TB.pre hT hN (MT.tw hI hw)⟩ rfl rfl hl.1 rfl (lv_room (Nat.le_of_ble_eq_true rfl)) dX8_wordOfLength_61 ⟨show cv + 0 ≤ 500 by omega, show sv + 0 ≤ 20000 by omega⟩) (fun rp3 H locs hrp3 hw => ?_)
                refine lv_iload hx hb dX8_wordOfLength_64 (lv_at hl 2 rfl) ?_
                refine MT_calli hI hw (va_runV (own := "Leastreader$Tails") (As := [.int rp3, .int rs]) (rest := [.int bf]) ⟨hx, hb, hml, hown, ht⟩ (c_X8_from  μ H.size rp3 rs (f_X8_from μ rp3 rs (Q := fun _ => True) (fun _ => trivial))) (cwV 2 ht (G_V q_1197 q_1198 q_1199 q_55 q_1200) rfl rfl rfl ⟨rfl, jd_35⟩ ⟨Nat.le_of_ble_eq_true rfl, Nat.le_of_ble_eq_true rfl⟩) ⟨TB.blind, (T_recv hT (MT.tw hI hw) (kd_of rfl (by decide)) (ent_7 rfl) cl_7), TB.pre hT hN (MT.tw hI hw)⟩ rfl rfl hl.1 rfl (lv_room (Nat.le_of_ble_eq_true rfl)) dX8_wordOfLength_66 ⟨show cv + 0 ≤ 500 by omega, show sv + 0 ≤ 20000 by omega⟩) (fun rp4 H locs hrp4 hw => ?_)
                refine lv_isub hx hb dX8_wordOfLength_69 ?_
                refine lv_istore (lv' := [(5, .int (bf - rp4)), (6, .int sta), (7, .int rs), (8, .int sg), (0, .ref (ad 48)), (1, .ref (ad k0)), (4, .ref q1)]) hx hb dX8_wordOfLength_70 hl (by decide) rfl (fun ls hl => ?_)
                refine lv_iinc (v := (sg + (1 : Int32))) (lv' := [(8, .int (sg + (1 : Int32))), (5, .int (bf - rp4)), (6, .int sta), (7, .int rs), (0, .ref (ad 48)), (1, .ref (ad k0)), (4, .ref q1)]) hx hb dX8_wordOfLength_72 hl (k := 3) rfl rfl (by decide) rfl (fun ls hl => ?_)
                refine lv_goto (tgt := 28) hx hb dX8_wordOfLength_75 (by decide) ?_
                exact ih2 (bf - rp4) (sg + (1 : Int32)) n v m (cv) (sv) f H locs ls (by omega) ⟨⟨by omega, by omega⟩, by omega⟩ (by omega) hB hf hw (lv_sub hl [1, 2, 3, 0, 4, 5, 6] rfl)
        refine lv_iconst (v := (0 : Int32)) hx hb dX8_wordOfLength_25 (by decide) ?_
        refine lv_istore (lv' := [(8, .int (0 : Int32)), (5, .int bf), (6, .int sta), (7, .int rs), (0, .ref (ad 48)), (1, .ref (ad k0)), (4, .ref q1)]) hx hb dX8_wordOfLength_26 hl (by decide) rfl (fun ls hl => ?_)
        exact L28 _ bf (0 : Int32) n v m (cv) (sv) f H locs ls (Nat.lt_succ_self _) ⟨⟨by decide, by decide⟩, by decide⟩ (by omega) hB hf hw (lv_sub hl [1, 2, 3, 0, 4, 5, 6] rfl)
  exact L20 _ a3 (0 : Int32) x7 0 u2 16 (0 + 1 + 1) (0 + 4 + 16) (fun _ => 0) H locs ls (Nat.lt_succ_self _) (by omega) (by omega) hB0 FT0 hw (lv_sub hl [2, 1, 0, 4, 5, 3] rfl)

set_option maxHeartbeats 4000000 in
set_option maxRecDepth 100000 in
theorem c_X8_wordAt {l : Launch} {D : va_G} {ad : Nat → Nat} {cI cM cB : ClassId} (k0 : Nat) (hk0 : kd k0 = 5) (μ : TMem) (sz : Nat) (a2 : Int32)  : TS l yX8_wordAt (.code yX8_wordAt cX8_wordAt 5 (Option.some (Jvm.ClassFile.FieldType.object "java/lang/String"))) 7 501 20001 [.ref (ad 48), .ref (ad k0), .int a2] D ad cI cM cB sz μ := by
  refine TS_met (by decide +kernel) (Nat.le_of_ble_eq_true rfl) ?_
  intro p e s mI below meth c Z ls hx hb hml hown ht hN hT hI hK hC hZ hR hw hret hl
  have hl : lv_has ls 5 [(0, .ref (ad 48)), (1, .ref (ad k0)), (2, .int a2)] := hl
  suffices hh : ∀ (H : Heap) (locs : List Loc), MW D (TRX ad cI cM μ) [] (TA ad s.heap.size) s H locs → W p l e (RA 7 501 20001) s mI #[.ref (ad 48), .ref (ad k0), .int a2] below meth c H locs 0 0 Z (F0 mI 0 ls []) from hh _ _ hw
  intro H locs hw
  refine lv_iload_n hx hb dX8_wordAt_0 rfl (lv_at hl 2 rfl) ?_
  refine lv_istore_n (lv' := [(3, .int a2), (0, .ref (ad 48)), (1, .ref (ad k0)), (2, .int a2)]) hx hb dX8_wordAt_1 rfl hl (by decide) rfl (fun ls hl => ?_)
  refine lv_iconst (v := (0 : Int32)) hx hb dX8_wordAt_2 (by decide) ?_
  refine lv_istore (lv' := [(4, .int (0 : Int32)), (3, .int a2), (0, .ref (ad 48)), (1, .ref (ad k0)), (2, .int a2)]) hx hb dX8_wordAt_3 hl (by decide) rfl (fun ls hl => ?_)
  have J39 : ∀ (bf ln : Int32) (H : Heap) (locs : List Loc) (ls : Array Slot), 0 ≤ ln.toInt → MW D (TRX ad cI cM μ) [] (TA ad s.heap.size) s H locs → lv_has ls 5 [(3, .int bf), (4, .int ln), (0, .ref (ad 48)), (1, .ref (ad k0))] → W p l e (RA 7 501 20001) s mI #[.ref (ad 48), .ref (ad k0), .int a2] below meth c H locs 0 0 Z (F0 mI 39 ls []) := by
    intro bf ln H locs ls h0 hw hl
    refine lv_iload hx hb dX8_wordAt_39 (lv_at hl 1 rfl) ?_
    refine lv_bipush (v := (12 : Int32)) hx hb dX8_wordAt_41 (by decide) ?_
    refine lv_icmp_le (tgt := 51) hx hb dX8_wordAt_43 (by decide) (fun c9 => ?_) (fun c9 => ?_)
    · have c1 : ln.toInt ≤ 12 := by rw [Int32.le_iff_toInt_le, show (12 : Int32).toInt = 12 from rfl] at c9; exact c9
      refine lv_aload_n hx hb dX8_wordAt_51 rfl (lv_at hl 2 rfl) ?_
      refine lv_aload_n hx hb dX8_wordAt_52 rfl (lv_at hl 3 rfl) ?_
      refine lv_iload hx hb dX8_wordAt_53 (lv_at hl 1 rfl) ?_
      refine lv_iload_n hx hb dX8_wordAt_55 rfl (lv_at hl 0 rfl) ?_
      refine TS_callr (MT.tw hI hw) (va_runV (own := "Leastreader$Tails") (As := [.ref (ad k0), .int ln, .int bf]) (rest := []) ⟨hx, hb, hml, hown, ht⟩ (c_X8_wordOfLength k0 hk0 μ H.size ln bf h0 c1) (cwV 3 ht (G_V q_1216 q_1218 q_24 q_55 q_1219) rfl rfl rfl ⟨rfl, jd_36⟩ ⟨Nat.le_of_ble_eq_true rfl, Nat.le_of_ble_eq_true rfl⟩) ⟨TBS.blind, (T_recv hT (MT.tw hI hw) (kd_of (k := 48) rfl (by decide)) (ent_7 rfl) cl_7), TBS.pre hT hN hK hC hZ hR (MT.tw hI hw)⟩ rfl rfl hl.1 rfl (lv_room (Nat.le_of_ble_eq_true rfl)) dX8_wordAt_56 ⟨show 0 + 500 ≤ 501 by omega, show 0 + 20000 ≤ 20001 by omega⟩) (fun ra H locs hw => ?_)
      exact hret H locs ls 59 _ _ [] _ (MT.of hw) (show 0 + 500 ≤ 501 by omega) (show 0 + 20000 ≤ 20001 by omega) dX8_wordAt_59
    · obtain ⟨sa, hsa⟩ := sr_RX8_48 hR
      refine va_ldcS hx hb hown hsa dX8_wordAt_46 ?_
      refine lv_goto (tgt := 59) hx hb dX8_wordAt_48 (by decide) ?_
      exact hret H locs ls 59 _ _ [] _ hw (show 0 ≤ 501 by omega) (show 0 ≤ 20001 by omega) dX8_wordAt_59
  have L5 : ∀ (k : Nat) (bf ln : Int32) (H : Heap) (locs : List Loc) (ls : Array Slot), ((13 : Int) - ln.toInt).toNat < k → 0 ≤ ln.toInt → MW D (TRX ad cI cM μ) [] (TA ad s.heap.size) s H locs → lv_has ls 5 [(3, .int bf), (4, .int ln), (0, .ref (ad 48)), (1, .ref (ad k0))] → W p l e (RA 7 501 20001) s mI #[.ref (ad 48), .ref (ad k0), .int a2] below meth c H locs 0 0 Z (F0 mI 5 ls []) := by
    intro k
    induction k with
    | zero => intro bf ln H locs ls hk; exact absurd hk (Nat.not_lt_zero _)
    | succ k ih =>
      intro bf ln H locs ls hk h0 hw hl
      refine lv_iload hx hb dX8_wordAt_5 (lv_at hl 1 rfl) ?_
      refine lv_bipush (v := (12 : Int32)) hx hb dX8_wordAt_7 (by decide) ?_
      refine lv_icmp_gt (tgt := 39) hx hb dX8_wordAt_9 (by decide) (fun c9 => ?_) (fun c9 => ?_)
      · exact J39 bf ln H locs ls h0 hw (lv_sub hl [0, 1, 2, 3] rfl)
      · have c1 : ln.toInt ≤ 12 := by rw [Int32.lt_iff_toInt_lt, show (12 : Int32).toInt = 12 from rfl] at c9; omega
        have e4 : (ln + (1 : Int32)).toInt = ln.toInt + 1 := ii_a rfl rfl (by omega) (by omega)
        refine lv_iload_n hx hb dX8_wordAt_12 rfl (lv_at hl 0 rfl) ?_
        refine lv_aload_n hx hb dX8_wordAt_13 rfl (lv_at hl 2 rfl) ?_
        refine lv_iconst (v := (0 : Int32)) hx hb dX8_wordAt_14 (by decide) ?_
        refine lv_iload hx hb dX8_wordAt_15 (lv_at hl 1 rfl) ?_
        refine MT_calli hI hw (va_runV (own := "Leastreader$Tails") (As := [.int (0 : Int32), .int ln]) (rest := [.int bf]) ⟨hx, hb, hml, hown, ht⟩ (c_X8_from  μ H.size (0 : Int32) ln (f_X8_from μ (0 : Int32) ln (Q := fun _ => True) (fun _ => trivial))) (cwV 2 ht (G_V q_1197 q_1198 q_1199 q_55 q_1200) rfl rfl rfl ⟨rfl, jd_35⟩ ⟨Nat.le_of_ble_eq_true rfl, Nat.le_of_ble_eq_true rfl⟩) ⟨TB.blind, (T_recv hT (MT.tw hI hw) (kd_of rfl (by decide)) (ent_7 rfl) cl_7), TB.pre hT hN (MT.tw hI hw)⟩ rfl rfl hl.1 rfl (lv_room (Nat.le_of_ble_eq_true rfl)) dX8_wordAt_17 ⟨show 0 + 0 ≤ 501 by omega, show 0 + 0 ≤ 20001 by omega⟩) (fun rp H locs hrp hw => ?_)
        refine lv_icmp_lt (tgt := 39) hx hb dX8_wordAt_20 (by decide) (fun c9 => ?_) (fun c9 => ?_)
        · exact J39 bf ln H locs ls h0 hw (lv_sub hl [0, 1, 2, 3] rfl)
        · refine lv_iload_n hx hb dX8_wordAt_23 rfl (lv_at hl 0 rfl) ?_
          refine lv_aload_n hx hb dX8_wordAt_24 rfl (lv_at hl 2 rfl) ?_
          refine lv_iconst (v := (0 : Int32)) hx hb dX8_wordAt_25 (by decide) ?_
          refine lv_iload hx hb dX8_wordAt_26 (lv_at hl 1 rfl) ?_
          refine MT_calli hI hw (va_runV (own := "Leastreader$Tails") (As := [.int (0 : Int32), .int ln]) (rest := [.int bf]) ⟨hx, hb, hml, hown, ht⟩ (c_X8_from  μ H.size (0 : Int32) ln (f_X8_from μ (0 : Int32) ln (Q := fun _ => True) (fun _ => trivial))) (cwV 2 ht (G_V q_1197 q_1198 q_1199 q_55 q_1200) rfl rfl rfl ⟨rfl, jd_35⟩ ⟨Nat.le_of_ble_eq_true rfl, Nat.le_of_ble_eq_true rfl⟩) ⟨TB.blind, (T_recv hT (MT.tw hI hw) (kd_of rfl (by decide)) (ent_7 rfl) cl_7), TB.pre hT hN (MT.tw hI hw)⟩ rfl rfl hl.1 rfl (lv_room (Nat.le_of_ble_eq_true rfl)) dX8_wordAt_28 ⟨show 0 + 0 ≤ 501 by omega, show 0 + 0 ≤ 20001 by omega⟩) (fun rq H locs hrq hw => ?_)
          refine lv_isub hx hb dX8_wordAt_31 ?_
          refine lv_istore_n (lv' := [(3, .int (bf - rq)), (4, .int ln), (0, .ref (ad 48)), (1, .ref (ad k0))]) hx hb dX8_wordAt_32 rfl hl (by decide) rfl (fun ls hl => ?_)
          refine lv_iinc (v := (ln + (1 : Int32))) (lv' := [(4, .int (ln + (1 : Int32))), (3, .int (bf - rq)), (0, .ref (ad 48)), (1, .ref (ad k0))]) hx hb dX8_wordAt_33 hl (k := 1) rfl rfl (by decide) rfl (fun ls hl => ?_)
          refine lv_goto (tgt := 5) hx hb dX8_wordAt_36 (by decide) ?_
          exact ih (bf - rq) (ln + (1 : Int32)) H locs ls (by omega) (by omega) hw (lv_sub hl [1, 0, 2, 3] rfl)
  exact L5 _ a2 (0 : Int32) H locs ls (Nat.lt_succ_self _) (by decide) hw (lv_sub hl [1, 0, 2, 3] rfl)
end
/-! part 9b.tsx -/
section
section TSX
def TBXS (D : va_G) (ad : Nat → Nat) (cI cM cB : ClassId) (sz : Nat) (μ : TMem) : State → Prop := fun U => TBX D ad cI cM sz μ U ∧ JK D cB U ∧ CN U ∧ ZS (TA ad sz) U U.heap
def XTs (l : Launch) (y : MethodName) (cd : Cond) (h c n : Nat) (as : List Value) (D : va_G) (ad : Nat → Nat) (cI cM cB : ClassId) (sz : Nat) (μ : TMem) (Q : TMem → Prop) (X : String → TMem → Prop) : Prop := vx_Met l y (cd :: W0) (RX h c n) (va_Pc as (TBXS D ad cI cM cB sz μ)) (va_Qq (fun (_ : Option Nat) (u : TMem) => Q u) (TE D ad cI cM) (TA ad sz)) (vx_X (fun _ : TMem => True) (TEX D ad cI cM X) (TA ad sz)) c n (TA ad sz)
variable {p : Program} {l : Launch} {e : Env} {R : Room} {s : State} {m : MethodId} {args : Array Value} {below : List Frame} {meth : Method} {c : Code} {H : Heap} {locs : List Loc} {cells slots : Nat} {Q : State → Prop}
variable {cc : ByteArray} {pc : Nat} {ls : Array Slot} {rest : List Value} {D : va_G} {ad : Nat → Nat} {cI cM cB : ClassId} {μ : TMem}
theorem TBXS.blind {as : List Value} {sz : Nat} : FrameBlind (va_Pc as (TBXS D ad cI cM cB sz μ)) := fun z U g mk q => by
  obtain ⟨q0, q1, q2, q3, q4⟩ := q
  exact ⟨q0, (TBX.blind z U g mk ⟨q0, q1⟩).2, va_K.moved (u := U) (U := U.calling g mk z) (Vm.Alike.refl U.vm) q2, CN.same (u := U) rfl q3, ZS.moved (u := U) (U := U.calling g mk z) (Vm.Alike.refl U.vm) q4⟩
theorem TBXS.pre {as : List Value} (hT : TK D cI cM s) (hN : NW s) (hX : SX ad s) (hJ : JK D cB s) (hC : CN s) (hZ : ZS (TA ad s.heap.size) s s.heap) (hw : TW D ad cI cM s μ H locs) : ∀ U : State, U.heap = H → s.WarmedH U.vm → va_Pc as (TBXS D ad cI cM cB H.size μ) as.toArray U := fun U hU hW => by
  refine ⟨rfl, (TBX.pre (as := as) hT hN hX hw U hU hW).2, va_K.moved hW.alike hJ, hC.warm hW, ?_⟩
  rw [hU]
  exact ((hZ.kept hw.2.2.2.1).moved hW.alike).narrow (TA.up hw.2.2.1)
theorem X_metTs {l : Launch} {y : MethodName} {bytes : ByteArray} {maxL : Nat} {cn : String} {h fc fn : Nat} {as : List Value} {D : va_G} {ad : Nat → Nat} {cI cM cB : ClassId} {sz : Nat} {μ : TMem} {Q : TMem → Prop} {X : String → TMem → Prop} (hy : plainName y.cls = true) (hsl : (lg_sl as).length ≤ maxL)
    (body : ∀ (p : Program) (e : Env) (s : State) (m : MethodId) (below : List Frame) (meth : Method) (c : Code) (Qc : Array Value → State → Outcome → State → Prop) (ls : Array Slot), p.tables.exec = Jvm.exec → c.code = bytes → c.maxLocals = maxL → s.vm.findClass y.cls = some m.cls → (∀ w ∈ W0, w.before as.toArray s = true) → NW s → TK D cI cM s → SX ad s → JK D cB s → CN s → ZS (TA ad s.heap.size) s s.heap → (∀ x ∈ c.exceptionTable.toList, False) → meth.locks = false → TW D ad cI cM s μ s.heap [] →
      (∀ (H : Heap) (locs : List Loc) (ls : Array Slot) (pc cells slots : Nat) (r : Option Nat) (μ1 : TMem), TW D ad cI cM s μ1 H locs → Q μ1 → cells ≤ fc → slots ≤ fn → decode bytes pc = .ok (.areturn, 1) → W p l e (RX h fc fn) s m as.toArray below meth c H locs cells slots (vx_MQ below Qc (vx_X (fun _ : TMem => True) (TEX D ad cI cM X) (TA ad s.heap.size)) as.toArray s fc fn (TA ad s.heap.size)) (F0 m pc ls [va_rf r])) → lv_has ls maxL (lv_args 0 as) →
      W p l e (RX h fc fn) s m as.toArray below meth c s.heap [] 0 0 (vx_MQ below Qc (vx_X (fun _ : TMem => True) (TEX D ad cI cM X) (TA ad s.heap.size)) as.toArray s fc fn (TA ad s.heap.size)) (F0 m 0 ls [])) : XTs l y (.code y bytes maxL (some (.object cn))) h fc fn as D ad cI cM cB sz μ Q X := by
  refine vx_ofW (cc := bytes) (maxL := maxL) (ret := (some (.object cn))) hy rfl ?_
  intro p e s m args below meth c s₁ B hml htab hv
  obtain ⟨rfl, ⟨⟨hsz, hP, hK, hI, hN⟩, hX⟩, hJ, hC, hZ⟩ := hv
  subst hsz
  have hts := atoms_spec B.pre
  have hlocks := B.notSynchronized
  rw [lg_entry_eq]
  refine body p e s m below meth c _ _ B.exec B.bytes hml (findClass_of_methodNamed B.named) (fun w hw => hts w (List.mem_cons_of_mem _ hw)) hN hK hX hJ hC hZ htab hlocks ⟨hP, hI, va_S.rf⟩ (fun H locs ls pc cells slots r μ1 hw hq hc hs hdg => ?_) (lv_entry as hsl)
  exact W.widen hc hs (vx_ret (W.aret B.exec B.bytes B.returns (Or.inl ⟨_, rfl⟩) (by cases r; exact Or.inl rfl; exact Or.inr ⟨_, rfl⟩) (fun t ht9 hW => ⟨⟨r, μ1, rfl, hq, by rw [TE, ht9]; exact hw.1⟩, hw.2.2.F ht9⟩) hw.2.2.2.2 hdg hlocks))
end TSX
set_option maxRecDepth 100000 in
theorem db_cX9_text_dX9_text_0_0 : zw [(0, .aload_n 0, 1), (1, .iload_n 1, 1), (2, .invokevirtual 69, 3), (5, .astore_n 3, 1), (6, .iload_n 2, 1), (7, .iconst 0, 1), (8, .iconst 3, 1), (9, .invokestatic 73, 3), (12, .aload_n 0, 1), (13, .iload_n 2, 1), (14, .aload_n 3, 1), (15, .aload_n 0, 1), (16, .getfield 66, 3), (19, .invokevirtual 183, 3), (22, .aload_n 0, 1), (23, .getfield 66, 3)] (cX9_text.data.toList.drop 0) 0 = true := by decide +kernel
def dc_cX9_text_dX9_text_0_0 := zw_16 db_cX9_text_dX9_text_0_0
def dX9_text_0 := dc_cX9_text_dX9_text_0_0.1
def dX9_text_1 := dc_cX9_text_dX9_text_0_0.2.1
def dX9_text_2 := dc_cX9_text_dX9_text_0_0.2.2.1
def dX9_text_5 := dc_cX9_text_dX9_text_0_0.2.2.2.1
def dX9_text_6 := dc_cX9_text_dX9_text_0_0.2.2.2.2.1
def dX9_text_7 := dc_cX9_text_dX9_text_0_0.2.2.2.2.2.1
def dX9_text_8 := dc_cX9_text_dX9_text_0_0.2.2.2.2.2.2.1
def dX9_text_9 := dc_cX9_text_dX9_text_0_0.2.2.2.2.2.2.2.1
def dX9_text_12 := dc_cX9_text_dX9_text_0_0.2.2.2.2.2.2.2.2.1
def dX9_text_13 := dc_cX9_text_dX9_text_0_0.2.2.2.2.2.2.2.2.2.1
def dX9_text_14 := dc_cX9_text_dX9_text_0_0.2.2.2.2.2.2.2.2.2.2.1
def dX9_text_15 := dc_cX9_text_dX9_text_0_0.2.2.2.2.2.2.2.2.2.2.2.1
def dX9_text_16 := dc_cX9_text_dX9_text_0_0.2.2.2.2.2.2.2.2.2.2.2.2.1
def dX9_text_19 := dc_cX9_text_dX9_text_0_0.2.2.2.2.2.2.2.2.2.2.2.2.2.1
def dX9_text_22 := dc_cX9_text_dX9_text_0_0.2.2.2.2.2.2.2.2.2.2.2.2.2.2.1
def dX9_text_23 := dc_cX9_text_dX9_text_0_0.2.2.2.2.2.2.2.2.2.2.2.2.2.2.2
set_option maxRecDepth 100000 in
theorem db_cX9_text_dX9_text_26_1 : zw [(26, .invokevirtual 191, 3), (29, .areturn, 1)] (cX9_text.data.toList.drop 26) 26 = true := by decide +kernel
def dc_cX9_text_dX9_text_26_1 := zw_2 db_cX9_text_dX9_text_26_1
def dX9_text_26 := dc_cX9_text_dX9_text_26_1.1
def dX9_text_29 := dc_cX9_text_dX9_text_26_1.2
set_option maxRecDepth 100000 in
theorem db_cX9_word_dX9_word_0_0 : zw [(0, .aload_n 0, 1), (1, .iload_n 1, 1), (2, .invokevirtual 69, 3), (5, .astore_n 3, 1), (6, .iload_n 2, 1), (7, .ifCond .ge 13, 3), (10, .new 212, 3), (13, .dup, 1), (14, .ldc 214, 2), (16, .invokespecial 216, 3), (19, .athrow, 1), (20, .aload_n 0, 1), (21, .iconst 0, 1), (22, .aload_n 3, 1), (23, .aload_n 0, 1), (24, .getfield 66, 3)] (cX9_word.data.toList.drop 0) 0 = true := by decide +kernel
def dc_cX9_word_dX9_word_0_0 := zw_16 db_cX9_word_dX9_word_0_0
def dX9_word_0 := dc_cX9_word_dX9_word_0_0.1
def dX9_word_1 := dc_cX9_word_dX9_word_0_0.2.1
def dX9_word_2 := dc_cX9_word_dX9_word_0_0.2.2.1
def dX9_word_5 := dc_cX9_word_dX9_word_0_0.2.2.2.1
def dX9_word_6 := dc_cX9_word_dX9_word_0_0.2.2.2.2.1
def dX9_word_7 := dc_cX9_word_dX9_word_0_0.2.2.2.2.2.1
def dX9_word_10 := dc_cX9_word_dX9_word_0_0.2.2.2.2.2.2.1
def dX9_word_13 := dc_cX9_word_dX9_word_0_0.2.2.2.2.2.2.2.1
def dX9_word_14 := dc_cX9_word_dX9_word_0_0.2.2.2.2.2.2.2.2.1
def dX9_word_16 := dc_cX9_word_dX9_word_0_0.2.2.2.2.2.2.2.2.2.1
def dX9_word_19 := dc_cX9_word_dX9_word_0_0.2.2.2.2.2.2.2.2.2.2.1
def dX9_word_20 := dc_cX9_word_dX9_word_0_0.2.2.2.2.2.2.2.2.2.2.2.1
def dX9_word_21 := dc_cX9_word_dX9_word_0_0.2.2.2.2.2.2.2.2.2.2.2.2.1
def dX9_word_22 := dc_cX9_word_dX9_word_0_0.2.2.2.2.2.2.2.2.2.2.2.2.2.1
def dX9_word_23 := dc_cX9_word_dX9_word_0_0.2.2.2.2.2.2.2.2.2.2.2.2.2.2.1
def dX9_word_24 := dc_cX9_word_dX9_word_0_0.2.2.2.2.2.2.2.2.2.2.2.2.2.2.2
set_option maxRecDepth 100000 in
theorem db_cX9_word_dX9_word_27_1 : zw [(27, .invokevirtual 183, 3), (30, .aload_n 0, 1), (31, .getfield 49, 3), (34, .aload_n 0, 1), (35, .getfield 66, 3), (38, .invokevirtual 205, 3), (41, .aload_n 0, 1), (42, .getfield 49, 3), (45, .aload_n 0, 1), (46, .getfield 66, 3), (49, .iload_n 2, 1), (50, .invokevirtual 219, 3), (53, .areturn, 1)] (cX9_word.data.toList.drop 27) 27 = true := by decide +kernel
def dc_cX9_word_dX9_word_27_1 := zw_13 db_cX9_word_dX9_word_27_1
def dX9_word_27 := dc_cX9_word_dX9_word_27_1.1
def dX9_word_30 := dc_cX9_word_dX9_word_27_1.2.1
def dX9_word_31 := dc_cX9_word_dX9_word_27_1.2.2.1
def dX9_word_34 := dc_cX9_word_dX9_word_27_1.2.2.2.1
def dX9_word_35 := dc_cX9_word_dX9_word_27_1.2.2.2.2.1
def dX9_word_38 := dc_cX9_word_dX9_word_27_1.2.2.2.2.2.1
def dX9_word_41 := dc_cX9_word_dX9_word_27_1.2.2.2.2.2.2.1
def dX9_word_42 := dc_cX9_word_dX9_word_27_1.2.2.2.2.2.2.2.1
def dX9_word_45 := dc_cX9_word_dX9_word_27_1.2.2.2.2.2.2.2.2.1
def dX9_word_46 := dc_cX9_word_dX9_word_27_1.2.2.2.2.2.2.2.2.2.1
def dX9_word_49 := dc_cX9_word_dX9_word_27_1.2.2.2.2.2.2.2.2.2.2.1
def dX9_word_50 := dc_cX9_word_dX9_word_27_1.2.2.2.2.2.2.2.2.2.2.2.1
def dX9_word_53 := dc_cX9_word_dX9_word_27_1.2.2.2.2.2.2.2.2.2.2.2.2
set_option maxRecDepth 100000 in
theorem db_cX9_apart_dX9_apart_0_0 : zw [(0, .aload_n 0, 1), (1, .iload_n 1, 1), (2, .invokevirtual 69, 3), (5, .astore_n 3, 1), (6, .aload_n 0, 1), (7, .iload_n 2, 1), (8, .invokevirtual 69, 3), (11, .astore 4, 2), (13, .aload_n 0, 1), (14, .aload_n 3, 1), (15, .aload 4, 2), (17, .invokevirtual 223, 3), (20, .aload_n 0, 1), (21, .getfield 42, 3), (24, .getfield 227, 3), (27, .iconst (-1), 1)] (cX9_apart.data.toList.drop 0) 0 = true := by decide +kernel
def dc_cX9_apart_dX9_apart_0_0 := zw_16 db_cX9_apart_dX9_apart_0_0
def dX9_apart_0 := dc_cX9_apart_dX9_apart_0_0.1
def dX9_apart_1 := dc_cX9_apart_dX9_apart_0_0.2.1
def dX9_apart_2 := dc_cX9_apart_dX9_apart_0_0.2.2.1
def dX9_apart_5 := dc_cX9_apart_dX9_apart_0_0.2.2.2.1
def dX9_apart_6 := dc_cX9_apart_dX9_apart_0_0.2.2.2.2.1
def dX9_apart_7 := dc_cX9_apart_dX9_apart_0_0.2.2.2.2.2.1
def dX9_apart_8 := dc_cX9_apart_dX9_apart_0_0.2.2.2.2.2.2.1
def dX9_apart_11 := dc_cX9_apart_dX9_apart_0_0.2.2.2.2.2.2.2.1
def dX9_apart_13 := dc_cX9_apart_dX9_apart_0_0.2.2.2.2.2.2.2.2.1
def dX9_apart_14 := dc_cX9_apart_dX9_apart_0_0.2.2.2.2.2.2.2.2.2.1
def dX9_apart_15 := dc_cX9_apart_dX9_apart_0_0.2.2.2.2.2.2.2.2.2.2.1
def dX9_apart_17 := dc_cX9_apart_dX9_apart_0_0.2.2.2.2.2.2.2.2.2.2.2.1
def dX9_apart_20 := dc_cX9_apart_dX9_apart_0_0.2.2.2.2.2.2.2.2.2.2.2.2.1
def dX9_apart_21 := dc_cX9_apart_dX9_apart_0_0.2.2.2.2.2.2.2.2.2.2.2.2.2.1
def dX9_apart_24 := dc_cX9_apart_dX9_apart_0_0.2.2.2.2.2.2.2.2.2.2.2.2.2.2.1
def dX9_apart_27 := dc_cX9_apart_dX9_apart_0_0.2.2.2.2.2.2.2.2.2.2.2.2.2.2.2
set_option maxRecDepth 100000 in
theorem db_cX9_apart_dX9_apart_28_1 : zw [(28, .if_icmp .ne 8, 3), (31, .ldc 233, 2), (33, .goto 17, 3), (36, .aload_n 0, 1), (37, .getfield 42, 3), (40, .aload_n 0, 1), (41, .getfield 42, 3), (44, .getfield 227, 3), (47, .invokevirtual 235, 3), (50, .areturn, 1)] (cX9_apart.data.toList.drop 28) 28 = true := by decide +kernel
def dc_cX9_apart_dX9_apart_28_1 := zw_10 db_cX9_apart_dX9_apart_28_1
def dX9_apart_28 := dc_cX9_apart_dX9_apart_28_1.1
def dX9_apart_31 := dc_cX9_apart_dX9_apart_28_1.2.1
def dX9_apart_33 := dc_cX9_apart_dX9_apart_28_1.2.2.1
def dX9_apart_36 := dc_cX9_apart_dX9_apart_28_1.2.2.2.1
def dX9_apart_37 := dc_cX9_apart_dX9_apart_28_1.2.2.2.2.1
def dX9_apart_40 := dc_cX9_apart_dX9_apart_28_1.2.2.2.2.2.1
def dX9_apart_41 := dc_cX9_apart_dX9_apart_28_1.2.2.2.2.2.2.1
def dX9_apart_44 := dc_cX9_apart_dX9_apart_28_1.2.2.2.2.2.2.2.1
def dX9_apart_47 := dc_cX9_apart_dX9_apart_28_1.2.2.2.2.2.2.2.2.1
def dX9_apart_50 := dc_cX9_apart_dX9_apart_28_1.2.2.2.2.2.2.2.2.2
theorem xd_0 : (yX9_machineAt : MethodName).cls ≠ "java/lang/invoke/MethodHandle" ∧ (yX9_machineAt : MethodName).cls ≠ "java/lang/invoke/VarHandle" ∧ (parseMethodDescriptor (yX9_machineAt : MethodName).desc).map (fun d => d.parameters.length) = some 1 := by decide +kernel
theorem xd_1 : (yX9_checkRange : MethodName).cls ≠ "java/lang/invoke/MethodHandle" ∧ (yX9_checkRange : MethodName).cls ≠ "java/lang/invoke/VarHandle" ∧ (parseMethodDescriptor (yX9_checkRange : MethodName).desc).map (fun d => d.parameters.length) = some 3 := by decide +kernel
theorem xd_2 : (yX9_makeOrThrow : MethodName).cls ≠ "java/lang/invoke/MethodHandle" ∧ (yX9_makeOrThrow : MethodName).cls ≠ "java/lang/invoke/VarHandle" ∧ (parseMethodDescriptor (yX9_makeOrThrow : MethodName).desc).map (fun d => d.parameters.length) = some 3 := by decide +kernel
theorem xd_3 : (yX5_describe : MethodName).cls ≠ "java/lang/invoke/MethodHandle" ∧ (yX5_describe : MethodName).cls ≠ "java/lang/invoke/VarHandle" ∧ (parseMethodDescriptor (yX5_describe : MethodName).desc).map (fun d => d.parameters.length) = some 0 := by decide +kernel
theorem xd_4 : (yX8_count : MethodName).cls ≠ "java/lang/invoke/MethodHandle" ∧ (yX8_count : MethodName).cls ≠ "java/lang/invoke/VarHandle" ∧ (parseMethodDescriptor (yX8_count : MethodName).desc).map (fun d => d.parameters.length) = some 1 := by decide +kernel
theorem xd_5 : (yX8_wordAt : MethodName).cls ≠ "java/lang/invoke/MethodHandle" ∧ (yX8_wordAt : MethodName).cls ≠ "java/lang/invoke/VarHandle" ∧ (parseMethodDescriptor (yX8_wordAt : MethodName).desc).map (fun d => d.parameters.length) = some 2 := by decide +kernel
theorem xd_6 : (yX9_meetOrThrow : MethodName).cls ≠ "java/lang/invoke/MethodHandle" ∧ (yX9_meetOrThrow : MethodName).cls ≠ "java/lang/invoke/VarHandle" ∧ (parseMethodDescriptor (yX9_meetOrThrow : MethodName).desc).map (fun d => d.parameters.length) = some 2 := by decide +kernel
theorem xd_7 : (yX4_wordTo : MethodName).cls ≠ "java/lang/invoke/MethodHandle" ∧ (yX4_wordTo : MethodName).cls ≠ "java/lang/invoke/VarHandle" ∧ (parseMethodDescriptor (yX4_wordTo : MethodName).desc).map (fun d => d.parameters.length) = some 1 := by decide +kernel
def wp_X9_text (μ : TMem) (a1 : Int32) (a2 : Int32) (Q : TMem → Prop) (X : String → TMem → Prop) : Prop :=
  wp_X9_machineAt μ a1 (fun (k2 : Nat) (μ1 : TMem) => wp_X9_checkRange μ1 a2 (0 : Int32) (3 : Int32) (fun (μ3 : TMem) => wp_X9_makeOrThrow k2 57 μ3 a2 (fun (μ4 : TMem) => (μ4 57 1).toInt ≤ 99 ∧ (Q μ4)) X) X) X
set_option maxHeartbeats 4000000 in
set_option maxRecDepth 100000 in
theorem c_X9_text {l : Launch} (hst : l.stackTraces = false) {D : va_G} {ad : Nat → Nat} {cI cM cB : ClassId}  (μ : TMem) (sz : Nat) (a1 : Int32) (a2 : Int32) {Q : TMem → Prop} {X : String → TMem → Prop} (h : wp_X9_text μ a1 a2 Q X) : XTs l yX9_text (.code yX9_text cX9_text 4 (Option.some (Jvm.ClassFile.FieldType.object "java/lang/String"))) 6 503 20018 [.ref (ad 0), .int a1, .int a2] D ad cI cM cB sz μ Q X := by
  refine X_metTs (by decide +kernel) (Nat.le_of_ble_eq_true rfl) ?_
  intro p e s m below meth c Qc ls hx hb hml hown ht hN hK hX hJ hC hZ htab hlocks hw hret hl
  have hl : lv_has ls 4 [(0, .ref (ad 0)), (1, .int a1), (2, .int a2)] := hl
  suffices hh : ∀ (H : Heap) (locs : List Loc), TW D ad cI cM s μ H locs → W p l e (RX 6 503 20018) s m #[.ref (ad 0), .int a1, .int a2] below meth c H locs 0 0 (vx_MQ below Qc (vx_X (fun _ : TMem => True) (TEX D ad cI cM X) (TA ad s.heap.size)) #[.ref (ad 0), .int a1, .int a2] s 503 20018 (TA ad s.heap.size)) (F0 m 0 ls []) from hh _ _ hw
  intro H locs hw
  change wp_X9_machineAt μ a1 (fun (k2 : Nat) (μ1 : TMem) => wp_X9_checkRange μ1 a2 (0 : Int32) (3 : Int32) (fun (μ3 : TMem) => wp_X9_makeOrThrow k2 57 μ3 a2 (fun (μ4 : TMem) => (μ4 57 1).toInt ≤ 99 ∧ (Q μ4)) X) X) X at h
  refine lv_aload_n hx hb dX9_text_0 rfl (lv_at hl 0 rfl) ?_
  refine lv_iload_n hx hb dX9_text_1 rfl (lv_at hl 1 rfl) ?_
  refine X_callo hw htab hlocks (c1 := 1) (n1 := 6) rfl rfl (Nat.le_of_ble_eq_true rfl) (Nat.le_of_ble_eq_true rfl) (vx_runV (own := "Leastreader") (As := [.int a1]) (rest := []) ⟨hx, hb, hml, hown, ht⟩ (c_X9_machineAt hst μ H.size a1 h) (cwV 1 ht (G_V q_314 q_316 q_0 q_46 q_317) rfl rfl rfl ⟨rfl, xd_0⟩ ⟨Nat.le_of_ble_eq_true rfl, Nat.le_of_ble_eq_true rfl⟩) ⟨TBX.blind, (T_recv hK hw (kd_of rfl (by decide)) (ent_8 rfl) cl_8), TBX.pre hK hN hX hw⟩ rfl rfl hl.1 rfl (lv_room (Nat.le_of_ble_eq_true rfl)) dX9_text_2 ⟨Nat.le_of_ble_eq_true rfl, Nat.le_of_ble_eq_true rfl⟩) (fun k2 μ1 H locs hk2 h hw => ?_)
  refine lv_astore_n (lv' := [(3, .ref (ad k2)), (0, .ref (ad 0)), (1, .int a1), (2, .int a2)]) hx hb dX9_text_5 rfl hl (by decide) rfl (fun ls hl => ?_)
  refine lv_iload_n hx hb dX9_text_6 rfl (lv_at hl 3 rfl) ?_
  refine lv_iconst (v := (0 : Int32)) hx hb dX9_text_7 (by decide) ?_
  refine lv_iconst (v := (3 : Int32)) hx hb dX9_text_8 (by decide) ?_
  refine X_callv hw htab hlocks (c1 := 2) (n1 := 12) rfl rfl (Nat.le_of_ble_eq_true rfl) (Nat.le_of_ble_eq_true rfl) (vx_runS (own := "Leastreader") (As := [.int a2, .int (0 : Int32), .int (3 : Int32)]) (rest := []) ⟨hx, hb, hml, hown, ht⟩ (c_X9_checkRange hst μ1 H.size a2 (0 : Int32) (3 : Int32) h) (va_cwS 3 ht (G_S q_597 q_598 q_46 q_599) rfl rfl rfl xd_1 ⟨Nat.le_of_ble_eq_true rfl, Nat.le_of_ble_eq_true rfl⟩) ⟨TBX.blind, TBX.pre hK hN hX hw⟩ rfl rfl hl.1 rfl (lv_room (Nat.le_of_ble_eq_true rfl)) dX9_text_9 ⟨Nat.le_of_ble_eq_true rfl, Nat.le_of_ble_eq_true rfl⟩) (fun μ3 H locs h hw => ?_)
  refine lv_aload_n hx hb dX9_text_12 rfl (lv_at hl 1 rfl) ?_
  refine lv_iload_n hx hb dX9_text_13 rfl (lv_at hl 3 rfl) ?_
  refine lv_aload_n hx hb dX9_text_14 rfl (lv_at hl 0 rfl) ?_
  refine lv_aload_n hx hb dX9_text_15 rfl (lv_at hl 1 rfl) ?_
  refine gf_X9_66 hx hb ht hown hK hw rfl dX9_text_16 ?_
  refine X_callv hw htab hlocks (c1 := 3) (n1 := 18) rfl rfl (Nat.le_of_ble_eq_true rfl) (Nat.le_of_ble_eq_true rfl) (vx_runV (own := "Leastreader") (As := [.int a2, .ref (ad k2), .ref (ad 57)]) (rest := []) ⟨hx, hb, hml, hown, ht⟩ (c_X9_makeOrThrow hst k2 hk2 57 rfl μ3 H.size a2 h) (cwV 3 ht (G_V q_854 q_856 q_21 q_46 q_857) rfl rfl rfl ⟨rfl, xd_2⟩ ⟨Nat.le_of_ble_eq_true rfl, Nat.le_of_ble_eq_true rfl⟩) ⟨TBX.blind, (T_recv hK hw (kd_of rfl (by decide)) (ent_8 rfl) cl_8), TBX.pre hK hN hX hw⟩ rfl rfl hl.1 rfl (lv_room (Nat.le_of_ble_eq_true rfl)) dX9_text_19 ⟨Nat.le_of_ble_eq_true rfl, Nat.le_of_ble_eq_true rfl⟩) (fun μ4 H locs h hw => ?_)
  refine lv_aload_n hx hb dX9_text_22 rfl (lv_at hl 1 rfl) ?_
  refine gf_X9_66 hx hb ht hown hK hw rfl dX9_text_23 ?_
  obtain ⟨z5, h⟩ := h
  refine TS_callr hw (va_runV (own := "Leastreader") (As := []) (rest := []) ⟨hx, hb, hml, hown, ht⟩ (c_X5_describe 57 rfl μ4 H.size  z5) (cwV 0 ht (G_V q_888 q_889 q_890 q_53 q_891) rfl rfl rfl ⟨rfl, xd_3⟩ ⟨Nat.le_of_ble_eq_true rfl, Nat.le_of_ble_eq_true rfl⟩) ⟨TBS.blind, (T_recv hK hw (kd_of rfl (by decide)) (ent_5 rfl) cl_5), TBS.pre hK hN hJ hC hZ hX.2.2.2 hw⟩ rfl rfl hl.1 rfl (lv_room (Nat.le_of_ble_eq_true rfl)) dX9_text_26 ⟨Nat.le_of_ble_eq_true rfl, Nat.le_of_ble_eq_true rfl⟩) (fun ra6 H locs hw => ?_)
  exact hret H locs ls 29 503 20018 (some ra6) _ hw h (Nat.le_of_ble_eq_true rfl) (Nat.le_of_ble_eq_true rfl) dX9_text_29

def wp_X9_word (μ : TMem) (a1 : Int32) (a2 : Int32) (Q : TMem → Prop) (X : String → TMem → Prop) : Prop :=
  wp_X9_machineAt μ a1 (fun (k2 : Nat) (μ1 : TMem) => (0 ≤ a2 → (wp_X9_makeOrThrow k2 57 μ1 (0 : Int32) (fun (μ4 : TMem) => wp_X8_count 57 μ4 (fun (μ5 : TMem) => Q μ5)) X)) ∧ (¬ 0 ≤ a2 → (X "java/lang/IllegalArgumentException" μ1))) X
set_option maxHeartbeats 4000000 in
set_option maxRecDepth 100000 in
theorem c_X9_word {l : Launch} (hst : l.stackTraces = false) {D : va_G} {ad : Nat → Nat} {cI cM cB : ClassId}  (μ : TMem) (sz : Nat) (a1 : Int32) (a2 : Int32) {Q : TMem → Prop} {X : String → TMem → Prop} (h : wp_X9_word μ a1 a2 Q X) : XTs l yX9_word (.code yX9_word cX9_word 4 (Option.some (Jvm.ClassFile.FieldType.object "java/lang/String"))) 6 504 20019 [.ref (ad 0), .int a1, .int a2] D ad cI cM cB sz μ Q X := by
  refine X_metTs (by decide +kernel) (Nat.le_of_ble_eq_true rfl) ?_
  intro p e s m below meth c Qc ls hx hb hml hown ht hN hK hX hJ hC hZ htab hlocks hw hret hl
  have hl : lv_has ls 4 [(0, .ref (ad 0)), (1, .int a1), (2, .int a2)] := hl
  suffices hh : ∀ (H : Heap) (locs : List Loc), TW D ad cI cM s μ H locs → W p l e (RX 6 504 20019) s m #[.ref (ad 0), .int a1, .int a2] below meth c H locs 0 0 (vx_MQ below Qc (vx_X (fun _ : TMem => True) (TEX D ad cI cM X) (TA ad s.heap.size)) #[.ref (ad 0), .int a1, .int a2] s 504 20019 (TA ad s.heap.size)) (F0 m 0 ls []) from hh _ _ hw
  intro H locs hw
  change wp_X9_machineAt μ a1 (fun (k2 : Nat) (μ1 : TMem) => (0 ≤ a2 → (wp_X9_makeOrThrow k2 57 μ1 (0 : Int32) (fun (μ4 : TMem) => wp_X8_count 57 μ4 (fun (μ5 : TMem) => Q μ5)) X)) ∧ (¬ 0 ≤ a2 → (X "java/lang/IllegalArgumentException" μ1))) X at h
  refine lv_aload_n hx hb dX9_word_0 rfl (lv_at hl 0 rfl) ?_
  refine lv_iload_n hx hb dX9_word_1 rfl (lv_at hl 1 rfl) ?_
  refine X_callo hw htab hlocks (c1 := 1) (n1 := 6) rfl rfl (Nat.le_of_ble_eq_true rfl) (Nat.le_of_ble_eq_true rfl) (vx_runV (own := "Leastreader") (As := [.int a1]) (rest := []) ⟨hx, hb, hml, hown, ht⟩ (c_X9_machineAt hst μ H.size a1 h) (cwV 1 ht (G_V q_314 q_316 q_0 q_46 q_317) rfl rfl rfl ⟨rfl, xd_0⟩ ⟨Nat.le_of_ble_eq_true rfl, Nat.le_of_ble_eq_true rfl⟩) ⟨TBX.blind, (T_recv hK hw (kd_of rfl (by decide)) (ent_8 rfl) cl_8), TBX.pre hK hN hX hw⟩ rfl rfl hl.1 rfl (lv_room (Nat.le_of_ble_eq_true rfl)) dX9_word_2 ⟨Nat.le_of_ble_eq_true rfl, Nat.le_of_ble_eq_true rfl⟩) (fun k2 μ1 H locs hk2 h hw => ?_)
  refine lv_astore_n (lv' := [(3, .ref (ad k2)), (0, .ref (ad 0)), (1, .int a1), (2, .int a2)]) hx hb dX9_word_5 rfl hl (by decide) rfl (fun ls hl => ?_)
  refine lv_iload_n hx hb dX9_word_6 rfl (lv_at hl 3 rfl) ?_
  refine lv_if_ge (tgt := 20) hx hb dX9_word_7 (by decide) (fun c3 => ?_) (fun c3 => ?_)
  · have h := h.1 c3
    refine lv_aload_n hx hb dX9_word_20 rfl (lv_at hl 1 rfl) ?_
    refine lv_iconst (v := (0 : Int32)) hx hb dX9_word_21 (by decide) ?_
    refine lv_aload_n hx hb dX9_word_22 rfl (lv_at hl 0 rfl) ?_
    refine lv_aload_n hx hb dX9_word_23 rfl (lv_at hl 1 rfl) ?_
    refine gf_X9_66 hx hb ht hown hK hw rfl dX9_word_24 ?_
    refine X_callv hw htab hlocks (c1 := 2) (n1 := 12) rfl rfl (Nat.le_of_ble_eq_true rfl) (Nat.le_of_ble_eq_true rfl) (vx_runV (own := "Leastreader") (As := [.int (0 : Int32), .ref (ad k2), .ref (ad 57)]) (rest := []) ⟨hx, hb, hml, hown, ht⟩ (c_X9_makeOrThrow hst k2 hk2 57 rfl μ1 H.size (0 : Int32) h) (cwV 3 ht (G_V q_854 q_856 q_21 q_46 q_857) rfl rfl rfl ⟨rfl, xd_2⟩ ⟨Nat.le_of_ble_eq_true rfl, Nat.le_of_ble_eq_true rfl⟩) ⟨TBX.blind, (T_recv hK hw (kd_of rfl (by decide)) (ent_8 rfl) cl_8), TBX.pre hK hN hX hw⟩ rfl rfl hl.1 rfl (lv_room (Nat.le_of_ble_eq_true rfl)) dX9_word_27 ⟨Nat.le_of_ble_eq_true rfl, Nat.le_of_ble_eq_true rfl⟩) (fun μ4 H locs h hw => ?_)
    refine lv_aload_n hx hb dX9_word_30 rfl (lv_at hl 1 rfl) ?_
    refine gf_X9_49 hx hb ht hown hK hw rfl dX9_word_31 ?_
    refine lv_aload_n hx hb dX9_word_34 rfl (lv_at hl 1 rfl) ?_
    refine gf_X9_66 hx hb ht hown hK hw rfl dX9_word_35 ?_
    refine T_callv hw (va_runV (own := "Leastreader") (As := [.ref (ad 57)]) (rest := []) ⟨hx, hb, hml, hown, ht⟩ (c_X8_count 57 rfl μ4 H.size h) (cwV 1 ht (G_V q_1186 q_1187 q_1188 q_55 q_1189) rfl rfl rfl ⟨rfl, xd_4⟩ ⟨Nat.le_of_ble_eq_true rfl, Nat.le_of_ble_eq_true rfl⟩) ⟨TB.blind, (T_recv hK hw (kd_of rfl (by decide)) (ent_7 rfl) cl_7), TB.pre hK hN hw⟩ rfl rfl hl.1 rfl (lv_room (Nat.le_of_ble_eq_true rfl)) dX9_word_38 ⟨Nat.le_of_ble_eq_true rfl, Nat.le_of_ble_eq_true rfl⟩) (fun μ5 H locs h hw => ?_)
    refine lv_aload_n hx hb dX9_word_41 rfl (lv_at hl 1 rfl) ?_
    refine gf_X9_49 hx hb ht hown hK hw rfl dX9_word_42 ?_
    refine lv_aload_n hx hb dX9_word_45 rfl (lv_at hl 1 rfl) ?_
    refine gf_X9_66 hx hb ht hown hK hw rfl dX9_word_46 ?_
    refine lv_iload_n hx hb dX9_word_49 rfl (lv_at hl 3 rfl) ?_
    refine TS_callr hw (va_runV (own := "Leastreader") (As := [.ref (ad 57), .int a2]) (rest := []) ⟨hx, hb, hml, hown, ht⟩ (c_X8_wordAt 57 rfl μ5 H.size a2 ) (cwV 2 ht (G_V q_1211 q_1212 q_1213 q_55 q_1214) rfl rfl rfl ⟨rfl, xd_5⟩ ⟨Nat.le_of_ble_eq_true rfl, Nat.le_of_ble_eq_true rfl⟩) ⟨TBS.blind, (T_recv hK hw (kd_of rfl (by decide)) (ent_7 rfl) cl_7), TBS.pre hK hN hJ hC hZ hX.2.2.2 hw⟩ rfl rfl hl.1 rfl (lv_room (Nat.le_of_ble_eq_true rfl)) dX9_word_50 ⟨Nat.le_of_ble_eq_true rfl, Nat.le_of_ble_eq_true rfl⟩) (fun ra6 H locs hw => ?_)
    exact hret H locs ls 53 503 20013 (some ra6) _ hw h (Nat.le_of_ble_eq_true rfl) (Nat.le_of_ble_eq_true rfl) dX9_word_53
  have h := h.2 c3
  exact X_throw (R := RX 6 504 20019) (cells := 1) (slots := 6) (fc := 504) (fn := 20019) (cls := "java/lang/IllegalArgumentException") hx hb hst (hl.1.trans hml.symm) hown (by decide +kernel) (ht _ q_600) (ht _ q_62) (sr_RX9_214 hX.2.2.2) (hat_1 ht hX.2.2.1) hgd_1 hX hw htab hlocks dX9_word_10 dX9_word_13 dX9_word_14 dX9_word_16 dX9_word_19 (Nat.le_of_ble_eq_true rfl) (Nat.le_of_ble_eq_true rfl) (Nat.le_of_ble_eq_true rfl) (Nat.le_of_ble_eq_true rfl) (Nat.le_of_ble_eq_true rfl) (Nat.le_of_ble_eq_true rfl) h

def wp_X9_apart (μ : TMem) (a1 : Int32) (a2 : Int32) (Q : TMem → Prop) (X : String → TMem → Prop) : Prop :=
  wp_X9_machineAt μ a1 (fun (k2 : Nat) (μ1 : TMem) => wp_X9_machineAt μ1 a2 (fun (k4 : Nat) (μ3 : TMem) => wp_X9_meetOrThrow k2 k4 μ3 (fun (μ5 : TMem) => (¬ (μ5 35 9) = (-1 : Int32) → (GB μ5 ∧ (Q μ5))) ∧ ((μ5 35 9) = (-1 : Int32) → (Q μ5))) X) X) X
set_option maxHeartbeats 4000000 in
set_option maxRecDepth 100000 in
theorem c_X9_apart {l : Launch} (hst : l.stackTraces = false) {D : va_G} {ad : Nat → Nat} {cI cM cB : ClassId}  (μ : TMem) (sz : Nat) (a1 : Int32) (a2 : Int32) {Q : TMem → Prop} {X : String → TMem → Prop} (h : wp_X9_apart μ a1 a2 Q X) : XTs l yX9_apart (.code yX9_apart cX9_apart 5 (Option.some (Jvm.ClassFile.FieldType.object "java/lang/String"))) 6 503 20018 [.ref (ad 0), .int a1, .int a2] D ad cI cM cB sz μ Q X := by
  refine X_metTs (by decide +kernel) (Nat.le_of_ble_eq_true rfl) ?_
  intro p e s m below meth c Qc ls hx hb hml hown ht hN hK hX hJ hC hZ htab hlocks hw hret hl
  have hl : lv_has ls 5 [(0, .ref (ad 0)), (1, .int a1), (2, .int a2)] := hl
  suffices hh : ∀ (H : Heap) (locs : List Loc), TW D ad cI cM s μ H locs → W p l e (RX 6 503 20018) s m #[.ref (ad 0), .int a1, .int a2] below meth c H locs 0 0 (vx_MQ below Qc (vx_X (fun _ : TMem => True) (TEX D ad cI cM X) (TA ad s.heap.size)) #[.ref (ad 0), .int a1, .int a2] s 503 20018 (TA ad s.heap.size)) (F0 m 0 ls []) from hh _ _ hw
  intro H locs hw
  change wp_X9_machineAt μ a1 (fun (k2 : Nat) (μ1 : TMem) => wp_X9_machineAt μ1 a2 (fun (k4 : Nat) (μ3 : TMem) => wp_X9_meetOrThrow k2 k4 μ3 (fun (μ5 : TMem) => (¬ (μ5 35 9) = (-1 : Int32) → (GB μ5 ∧ (Q μ5))) ∧ ((μ5 35 9) = (-1 : Int32) → (Q μ5))) X) X) X at h
  refine lv_aload_n hx hb dX9_apart_0 rfl (lv_at hl 0 rfl) ?_
  refine lv_iload_n hx hb dX9_apart_1 rfl (lv_at hl 1 rfl) ?_
  refine X_callo hw htab hlocks (c1 := 1) (n1 := 6) rfl rfl (Nat.le_of_ble_eq_true rfl) (Nat.le_of_ble_eq_true rfl) (vx_runV (own := "Leastreader") (As := [.int a1]) (rest := []) ⟨hx, hb, hml, hown, ht⟩ (c_X9_machineAt hst μ H.size a1 h) (cwV 1 ht (G_V q_314 q_316 q_0 q_46 q_317) rfl rfl rfl ⟨rfl, xd_0⟩ ⟨Nat.le_of_ble_eq_true rfl, Nat.le_of_ble_eq_true rfl⟩) ⟨TBX.blind, (T_recv hK hw (kd_of rfl (by decide)) (ent_8 rfl) cl_8), TBX.pre hK hN hX hw⟩ rfl rfl hl.1 rfl (lv_room (Nat.le_of_ble_eq_true rfl)) dX9_apart_2 ⟨Nat.le_of_ble_eq_true rfl, Nat.le_of_ble_eq_true rfl⟩) (fun k2 μ1 H locs hk2 h hw => ?_)
  refine lv_astore_n (lv' := [(3, .ref (ad k2)), (0, .ref (ad 0)), (1, .int a1), (2, .int a2)]) hx hb dX9_apart_5 rfl hl (by decide) rfl (fun ls hl => ?_)
  refine lv_aload_n hx hb dX9_apart_6 rfl (lv_at hl 1 rfl) ?_
  refine lv_iload_n hx hb dX9_apart_7 rfl (lv_at hl 3 rfl) ?_
  refine X_callo hw htab hlocks (c1 := 2) (n1 := 12) rfl rfl (Nat.le_of_ble_eq_true rfl) (Nat.le_of_ble_eq_true rfl) (vx_runV (own := "Leastreader") (As := [.int a2]) (rest := []) ⟨hx, hb, hml, hown, ht⟩ (c_X9_machineAt hst μ1 H.size a2 h) (cwV 1 ht (G_V q_314 q_316 q_0 q_46 q_317) rfl rfl rfl ⟨rfl, xd_0⟩ ⟨Nat.le_of_ble_eq_true rfl, Nat.le_of_ble_eq_true rfl⟩) ⟨TBX.blind, (T_recv hK hw (kd_of rfl (by decide)) (ent_8 rfl) cl_8), TBX.pre hK hN hX hw⟩ rfl rfl hl.1 rfl (lv_room (Nat.le_of_ble_eq_true rfl)) dX9_apart_8 ⟨Nat.le_of_ble_eq_true rfl, Nat.le_of_ble_eq_true rfl⟩) (fun k4 μ3 H locs hk4 h hw => ?_)
  refine lv_astore (lv' := [(4, .ref (ad k4)), (3, .ref (ad k2)), (0, .ref (ad 0)), (1, .int a1), (2, .int a2)]) hx hb dX9_apart_11 hl (by decide) rfl (fun ls hl => ?_)
  refine lv_aload_n hx hb dX9_apart_13 rfl (lv_at hl 2 rfl) ?_
  refine lv_aload_n hx hb dX9_apart_14 rfl (lv_at hl 1 rfl) ?_
  refine lv_aload hx hb dX9_apart_15 (lv_at hl 0 rfl) ?_
  refine X_callv hw htab hlocks (c1 := 3) (n1 := 18) rfl rfl (Nat.le_of_ble_eq_true rfl) (Nat.le_of_ble_eq_true rfl) (vx_runV (own := "Leastreader") (As := [.ref (ad k2), .ref (ad k4)]) (rest := []) ⟨hx, hb, hml, hown, ht⟩ (c_X9_meetOrThrow hst k2 hk2 k4 hk4 μ3 H.size h) (cwV 2 ht (G_V q_1234 q_1236 q_25 q_46 q_1237) rfl rfl rfl ⟨rfl, xd_6⟩ ⟨Nat.le_of_ble_eq_true rfl, Nat.le_of_ble_eq_true rfl⟩) ⟨TBX.blind, (T_recv hK hw (kd_of rfl (by decide)) (ent_8 rfl) cl_8), TBX.pre hK hN hX hw⟩ rfl rfl hl.1 rfl (lv_room (Nat.le_of_ble_eq_true rfl)) dX9_apart_17 ⟨Nat.le_of_ble_eq_true rfl, Nat.le_of_ble_eq_true rfl⟩) (fun μ5 H locs h hw => ?_)
  refine lv_aload_n hx hb dX9_apart_20 rfl (lv_at hl 2 rfl) ?_
  refine gf_X9_42 hx hb ht hown hK hw rfl dX9_apart_21 ?_
  refine gf_X9_227 hx hb ht hN hown hK hw rfl dX9_apart_24 ?_
  refine lv_iconst (v := (-1 : Int32)) hx hb dX9_apart_27 (by decide) ?_
  refine lv_icmp_ne (tgt := 36) hx hb dX9_apart_28 (by decide) (fun c6 => ?_) (fun c6 => ?_)
  · have h := h.1 c6
    refine lv_aload_n hx hb dX9_apart_36 rfl (lv_at hl 2 rfl) ?_
    refine gf_X9_42 hx hb ht hown hK hw rfl dX9_apart_37 ?_
    refine lv_aload_n hx hb dX9_apart_40 rfl (lv_at hl 2 rfl) ?_
    refine gf_X9_42 hx hb ht hown hK hw rfl dX9_apart_41 ?_
    refine gf_X9_227 hx hb ht hN hown hK hw rfl dX9_apart_44 ?_
    obtain ⟨z7, h⟩ := h
    refine TS_callr hw (va_runV (own := "Leastreader") (As := [.int (μ5 35 9)]) (rest := []) ⟨hx, hb, hml, hown, ht⟩ (c_X4_wordTo  μ5 H.size (μ5 35 9) z7) (cwV 1 ht (G_V q_1246 q_1247 q_1248 q_54 q_1249) rfl rfl rfl ⟨rfl, xd_7⟩ ⟨Nat.le_of_ble_eq_true rfl, Nat.le_of_ble_eq_true rfl⟩) ⟨TBS.blind, (T_recv hK hw (kd_of rfl (by decide)) (ent_4 rfl) cl_4), TBS.pre hK hN hJ hC hZ hX.2.2.2 hw⟩ rfl rfl hl.1 rfl (lv_room (Nat.le_of_ble_eq_true rfl)) dX9_apart_47 ⟨Nat.le_of_ble_eq_true rfl, Nat.le_of_ble_eq_true rfl⟩) (fun ra8 H locs hw => ?_)
    exact hret H locs ls 50 503 20018 (some ra8) _ hw h (Nat.le_of_ble_eq_true rfl) (Nat.le_of_ble_eq_true rfl) dX9_apart_50
  have h := h.2 c6
  obtain ⟨sa, hsa⟩ := sr_RX9_233 hX.2.2.2
  refine va_ldcS hx hb hown hsa dX9_apart_31 ?_
  refine lv_goto (tgt := 50) hx hb dX9_apart_33 (by decide) ?_
  exact hret H locs ls 50 3 18 (some sa) _ hw h (Nat.le_of_ble_eq_true rfl) (Nat.le_of_ble_eq_true rfl) dX9_apart_50
end
/-! part 9c.ts2 -/
section
section GLS
theorem k5 {μ μ1 : TMem} {k : Nat} (hk : kd k = 5) (f : Fr 0 μ μ1) : μ1 k 1 = μ k 1 := f.1 k 1 (by rw [hk]; rfl)
theorem tms_at {μ : TMem} {k i : Nat} {v : Int32} : (tms μ k i v) k i = v := by simp [tms, upd]
theorem tms_o {μ : TMem} {k i j : Nat} {v : Int32} (h : j ≠ i) : (tms μ k i v) k j = μ k j := by simp [tms, upd, h]
theorem up2 {a b : TMem} (f : Fr 0 a b) : Fr 2 a b := f.up (by decide)
theorem st2 {a b : TMem} {k i : Nat} {v : Int32} (f : Fr 2 a b) (hk : kd k = 5) : Fr 2 a (tms b k i v) := f.st (by rw [hk]; rfl) (Or.inl (ne43 hk (by decide)))
theorem inc_b {x : Int32} {b : Int} (h : x.toInt ≤ b) (hb : b < 2147483647) : (x + (1 : Int32)).toInt ≤ b + 1 := by
  have h1 := x.le_toInt
  have : (x + (1 : Int32)).toInt = x.toInt + 1 := ii_a rfl rfl (by omega) (by omega)
  omega
theorem g_numberOf (k2 : Nat) (hk2 : kd k2 = 5) (μ : TMem) (a1 : Int32) {Q : Int32 → TMem → Prop} (hS : (μ k2 1).toInt ≤ 32) (h : ∀ (r : Int32) (μ9 : TMem), Fr 2 μ μ9 → (μ9 k2 1).toInt ≤ 32 → Q r μ9) : wp_X3_numberOf k2 μ a1 Q := by
  unfold wp_X3_numberOf
  refine f_X6_find 16 rfl μ a1 (μ k2 1) (fun r1 => ⟨fun _ => h _ _ Fr.rf hS, fun _ => ⟨fun c => ?_, fun _ => h _ _ Fr.rf hS⟩⟩)
  refine f_X6_put 16 rfl μ (μ k2 1) a1 (Or.inl (by decide)) (fun μ6 f6 => h _ _ (st2 (up2 f6) hk2) ?_)
  rw [tms_at, k5 hk2 f6]
  have c1 := l_lt.mp c
  rw [show (32 : Int32).toInt = 32 from rfl] at c1
  have := inc_b (x := μ k2 1) (b := 31) (by omega) (by omega)
  omega
theorem g_makeOneWay_78 (μ0 : TMem) (k1 : Nat) (hk1 : kd k1 = 2) (k2 : Nat) (hk2 : kd k2 = 5) (v15 : Int32) (v16 : Int32) {K122 : TMem → Prop} {Q : Int32 → TMem → Prop} (hK122 : ∀ (u0 : TMem), Fr 2 μ0 u0 → (u0 k2 1).toInt ≤ 32 → K122 u0) (h : ∀ (r : Int32) (μ9 : TMem), isB r → Fr 2 μ0 μ9 → (μ9 k2 1).toInt ≤ 32 → Q r μ9) : ∀ (n : Nat) (v14 : Int32) (μ17 : TMem), (((3 : Int32)).toInt - (v14).toInt).toNat < n → 0 ≤ (v14).toInt → Fr 2 μ0 μ17 → (μ17 k2 1).toInt ≤ 32 → wpl_X3_makeOneWay_78 k1 k2 v15 v16 K122 Q n v14 μ17 := by
  intro n
  induction n with
  | zero => intro v14 μ17 hm; exact absurd hm (Nat.not_lt_zero _)
  | succ n ih =>
    intro v14 μ17 hm hi hF hS
    refine ⟨fun c_ex => hK122 μ17 hF hS, fun c_lt => ?_⟩
    refine f_X2_reach k1 hk1 μ17 v15 v14 (fun r19 => ?_)
    refine g_numberOf k2 hk2 μ17 r19 hS (fun r23 μ22 f22 hS2 => ?_)
    refine ⟨fun _ => ?_, fun _ => h _ _ (Or.inl rfl) (hF.trans f22) hS2⟩
    refine f_X7_put k2 (Or.inr hk2) μ22 v16 v14 r23 (fun μ25 f25 => ?_)
    exact ih (v14 + (1 : Int32)) μ25 (lt_m c_lt (by omega)) (lt_p hi c_lt) ((hF.trans f22).trans (up2 f25)) (by rw [k5 hk2 f25]; exact hS2)
theorem g_makeOneWay_24 (μ0 : TMem) (k1 : Nat) (hk1 : kd k1 = 2) (k2 : Nat) (hk2 : kd k2 = 5) {Q : Int32 → TMem → Prop} (h : ∀ (r : Int32) (μ9 : TMem), isB r → Fr 2 μ0 μ9 → (μ9 k2 1).toInt ≤ 32 → Q r μ9) : ∀ (n : Nat) (v3 : Int32) (μ4 : TMem), (((32 : Int32)).toInt - (v3).toInt).toNat < n → 0 ≤ (v3).toInt → Fr 2 μ0 μ4 → (μ4 k2 1).toInt ≤ 32 → wpl_X3_makeOneWay_24 k1 k2 Q n v3 μ4 := by
  intro n
  induction n with
  | zero => intro v3 μ4 hm; exact absurd hm (Nat.not_lt_zero _)
  | succ n ih =>
    intro v3 μ4 hm hi hF hS
    refine ⟨fun c_ex => h _ _ (Or.inr rfl) hF hS, fun c_lt => ⟨fun _ => h _ _ (Or.inr rfl) hF hS, fun _ => ?_⟩⟩
    refine f_X6_at 16 rfl μ4 v3 (fun r7 => ?_)
    have key : ∀ j11 : Int32, wp_X9_withOrWithout (μ4 k2 2) v3 j11 (fun (r12 : Int32) => ∃ n12x, wpl_X3_makeOneWay_78 k1 k2 r7 v3 (fun (μ27 : TMem) => wpl_X3_makeOneWay_24 k1 k2 Q n (v3 + (1 : Int32)) μ27) Q n12x (0 : Int32) (tms μ4 k2 2 r12)) := fun j11 => by
      refine f_X9_withOrWithout (μ4 k2 2) v3 j11 (fun r12 => ?_)
      have hS3 : ((tms μ4 k2 2 r12) k2 1).toInt ≤ 32 := by rw [tms_o (by decide)]; exact hS
      exact ⟨_, g_makeOneWay_78 μ0 k1 hk1 k2 hk2 r7 v3 (fun μ27 f27 hS27 => ih (v3 + (1 : Int32)) μ27 (lt_m c_lt (by omega)) (lt_p hi c_lt) f27 hS27) h _ (0 : Int32) _ (Nat.lt_succ_self _) (by decide) (st2 hF hk2) hS3⟩
    intro J10 hJ10
    exact ⟨fun _ => hJ10 _ (key _), fun _ => hJ10 _ (key _)⟩
theorem g_makeOneWay (k1 : Nat) (hk1 : kd k1 = 2) (k2 : Nat) (hk2 : kd k2 = 5) (μ : TMem) {Q : Int32 → TMem → Prop} (h : ∀ (r : Int32) (μ9 : TMem), isB r → Fr 2 μ μ9 → (μ9 k2 1).toInt ≤ 32 → Q r μ9) : wp_X3_makeOneWay k1 k2 μ Q := by
  refine f_X6_put 16 rfl μ (0 : Int32) (μ k1 3) (Or.inl (by decide)) (fun μ1 f1 => ?_)
  exact ⟨_, g_makeOneWay_24 μ k1 hk1 k2 hk2 h _ (0 : Int32) _ (Nat.lt_succ_self _) (by decide) (st2 (st2 (up2 f1) hk2) hk2) (by rw [tms_o (by decide), tms_at]; decide)⟩
theorem g_groupNumber (k2 : Nat) (hk2 : kd k2 = 5) (μ : TMem) (a1 : Int32) {Q : Int32 → TMem → Prop} {b : Int} (hb : 0 ≤ b) (hb2 : b < 1000) (hS : (μ k2 1).toInt ≤ b) (h : ∀ (r : Int32) (μ9 : TMem), Fr 2 μ μ9 → (μ9 k2 1).toInt ≤ b + 1 → Q r μ9) : wp_X3_groupNumber k2 μ a1 Q := by
  unfold wp_X3_groupNumber
  refine f_X1_partOf μ a1 (fun r1 => ?_)
  refine f_X6_at 20 rfl μ r1 (fun r4 => ?_)
  intro J7 hJ7
  refine ⟨fun _ => ?_, fun _ => ?_⟩
  · exact f_X6_at 20 rfl μ r1 (fun r13 => h _ _ Fr.rf (by omega))
  · refine f_X6_put 20 rfl μ r1 (μ k2 1) (Or.inl (by decide)) (fun μ16 f16 => ?_)
    refine f_X6_put 18 rfl μ16 (μ16 k2 1) a1 (Or.inl (by decide)) (fun μ17 f17 => ?_)
    refine hJ7 _ ?_
    refine f_X6_at 20 rfl _ r1 (fun r9 => h _ _ (st2 (up2 (f16.trans f17)) hk2) ?_)
    rw [tms_at, k5 hk2 (f16.trans f17)]
    exact inc_b hS (by omega)
theorem g_makeGroups_90 (μ0 : TMem) (k1 : Nat) (hk1 : kd k1 = 5) (k2 : Nat) (hk2 : kd k2 = 5) (v21 : Int32) (v22 : Int32) (b : Int) (hb : 0 ≤ b) (hb2 : b < 500) {K122 : TMem → Prop} (hK122 : ∀ (u0 : TMem), Fr 2 μ0 u0 → (u0 k2 1).toInt ≤ b + 3 → K122 u0) : ∀ (n : Nat) (v20 : Int32) (μ23 : TMem), (((3 : Int32)).toInt - (v20).toInt).toNat < n → 0 ≤ (v20).toInt → v20.toInt ≤ 3 → Fr 2 μ0 μ23 → (μ23 k2 1).toInt ≤ b + v20.toInt → wpl_X3_makeGroups_90 k1 k2 v21 v22 K122 n v20 μ23 := by
  intro n
  induction n with
  | zero => intro v20 μ23 hm; exact absurd hm (Nat.not_lt_zero _)
  | succ n ih =>
    intro v20 μ23 hm hi h3 hF hS
    refine ⟨fun c_ex => hK122 μ23 hF (by omega), fun c_lt => ?_⟩
    have c1 := nle c_lt
    have e1 := inc_i c_lt
    rw [show (3 : Int32).toInt = 3 from rfl] at c1
    refine f_X7_at k1 (Or.inr hk1) μ23 v21 v20 (fun r25 => ?_)
    refine g_groupNumber k2 hk2 μ23 r25 (b := b + v20.toInt) (by omega) (by omega) hS (fun r29 μ28 f28 hS2 => ?_)
    refine f_X7_put k2 (Or.inr hk2) μ28 v22 v20 r29 (fun μ30 f30 => ?_)
    exact ih (v20 + (1 : Int32)) μ30 (lt_m c_lt (by omega)) (lt_p hi c_lt) (by omega) ((hF.trans f28).trans (up2 f30)) (by rw [k5 hk2 f30]; omega)
theorem g_makeGroups_45 (μ0 : TMem) (k1 : Nat) (hk1 : kd k1 = 5) (k2 : Nat) (hk2 : kd k2 = 5) {Q : TMem → Prop} (h : ∀ μ9 : TMem, Fr 2 μ0 μ9 → (μ9 k2 1).toInt ≤ 97 → Q μ9) : ∀ (n : Nat) (v8 : Int32) (μ9 : TMem), (((32 : Int32)).toInt - (v8).toInt).toNat < n → 0 ≤ (v8).toInt → v8.toInt ≤ 32 → Fr 2 μ0 μ9 → (μ9 k2 1).toInt ≤ 1 + 3 * v8.toInt → wpl_X3_makeGroups_45 k1 k2 Q n v8 μ9 := by
  intro n
  induction n with
  | zero => intro v8 μ9 hm; exact absurd hm (Nat.not_lt_zero _)
  | succ n ih =>
    intro v8 μ9 hm hi h32 hF hS
    refine ⟨fun c_ex => h _ hF (by omega), fun c_lt => ⟨fun _ => h _ hF (by omega), fun _ => ?_⟩⟩
    have c1 := nle c_lt
    have e1 := inc_i c_lt
    rw [show (32 : Int32).toInt = 32 from rfl] at c1
    refine f_X6_at 18 rfl μ9 v8 (fun r12 => ?_)
    refine f_X5_isGoal k1 hk1 μ9 r12 (fun r15 b152 => ?_)
    refine f_X9_withOrWithout (μ9 k2 2) v8 r15 (fun r18 => ?_)
    have hS3 : ((tms μ9 k2 2 r18) k2 1).toInt ≤ 1 + 3 * v8.toInt + (0 : Int32).toInt := by rw [tms_o (by decide), ii_0]; omega
    exact ⟨_, g_makeGroups_90 μ0 k1 hk1 k2 hk2 r12 v8 (1 + 3 * v8.toInt) (by omega) (by omega) (fun μ32 f32 hS32 => ih (v8 + (1 : Int32)) μ32 (lt_m c_lt (by omega)) (lt_p hi c_lt) (by omega) f32 (by omega)) _ (0 : Int32) _ (Nat.lt_succ_self _) (by decide) (by decide) (st2 hF hk2) hS3⟩
theorem g_makeGroups (k1 : Nat) (hk1 : kd k1 = 5) (k2 : Nat) (hk2 : kd k2 = 5) (μ : TMem) {Q : TMem → Prop} (h : ∀ μ9 : TMem, Fr 2 μ μ9 → (μ9 k2 1).toInt ≤ 97 → Q μ9) : wp_X3_makeGroups k1 k2 μ Q := by
  refine f_X6_fill 20 rfl μ (-1 : Int32) (by decide) (fun μ1 f1 => ?_)
  refine f_X1_partOf μ1 (0 : Int32) (fun r2 => ?_)
  refine f_X6_put 20 rfl μ1 r2 (0 : Int32) (Or.inl (by decide)) (fun μ5 f5 => ?_)
  refine f_X6_put 18 rfl μ5 (0 : Int32) (0 : Int32) (Or.inl (by decide)) (fun μ6 f6 => ?_)
  exact ⟨_, g_makeGroups_45 μ k1 hk1 k2 hk2 h _ (0 : Int32) _ (Nat.lt_succ_self _) (by decide) (by decide) (st2 (st2 (up2 ((f1.trans f5).trans f6)) hk2) hk2) (by rw [tms_o (by decide), tms_at]; decide)⟩
theorem g_makeByTurning (k1 : Nat) (hk1 : kd k1 = 2) (k2 : Nat) (hk2 : kd k2 = 5) (μ : TMem) {Q : Int32 → TMem → Prop} (h : ∀ (r : Int32) (μ9 : TMem), isB r → Fr 2 μ μ9 → (r ≠ 0 → (μ9 k2 1).toInt ≤ 97) → Q r μ9) : wp_X3_makeByTurning k1 k2 μ Q := by
  refine f_X2_becomeRound 31 rfl k1 hk1 μ (fun μ1 f1 => ?_)
  refine f_X3_makeOneWay 31 rfl 33 rfl μ1 (fun r3 μ2 b2 f2 => ⟨fun _ => ?_, fun _ => h _ _ (Or.inl rfl) (f1.trans f2) (fun z => absurd rfl z)⟩)
  refine f_X2_becomePlain 29 rfl 33 rfl μ2 (fun μ5 f5 => ?_)
  refine f_X2_becomeRound 31 rfl 29 rfl μ5 (fun μ6 f6 => ?_)
  exact g_makeOneWay 31 rfl k2 hk2 μ6 (fun r8 μ7 b8 f7 hS => ⟨b8, h _ _ b8 ((((f1.trans f2).trans f5).trans f6).trans f7) (fun _ => by omega)⟩)
theorem g_makeBy (k2 : Nat) (hk2 : kd k2 = 2) (k3 : Nat) (hk3 : kd k3 = 5) (μ : TMem) (a1 : Int32) {Q : Int32 → TMem → Prop} (h : ∀ (r : Int32) (μ9 : TMem), isB r → Fr 2 μ μ9 → (r ≠ 0 → (μ9 k3 1).toInt ≤ 97) → Q r μ9) : wp_X3_makeBy k2 k3 μ a1 Q := by
  refine ⟨fun _ => ⟨fun _ => ?_, fun _ => ?_⟩, fun _ => ?_⟩
  · refine f_X3_makeOneWay k2 hk2 33 rfl μ (fun r4 μ3 b4 f3 => ⟨fun _ => ?_, fun _ => h _ _ (Or.inl rfl) f3 (fun z => absurd rfl z)⟩)
    intro J6 hJ6
    refine ⟨fun _ => ?_, fun _ => ?_⟩
    · refine f_X1_findByParting 33 rfl μ3 (fun μ10 f10 => hJ6 μ10 ?_)
      exact g_makeGroups 33 rfl k3 hk3 μ10 (fun μ8 f8 hS => h _ _ (Or.inr rfl) ((f3.trans (up2 f10)).trans f8) (fun _ => hS))
    · refine f_X1_findByPairs 33 rfl μ3 (fun μ10 f10 => hJ6 μ10 ?_)
      exact g_makeGroups 33 rfl k3 hk3 μ10 (fun μ8 f8 hS => h _ _ (Or.inr rfl) ((f3.trans (up2 f10)).trans f8) (fun _ => hS))
  · exact g_makeByTurning k2 hk2 k3 hk3 μ (fun r μ9 b9 f9 hS => ⟨b9, h _ _ b9 f9 hS⟩)
  · exact g_makeOneWay k2 hk2 k3 hk3 μ (fun r μ9 b9 f9 hS => ⟨b9, h _ _ b9 f9 (fun _ => by omega)⟩)
theorem g_makeOrThrow (k2 : Nat) (hk2 : kd k2 = 2) (k3 : Nat) (hk3 : kd k3 = 5) (μ : TMem) (a1 : Int32) {Q : TMem → Prop} {X : String → TMem → Prop} (h : ∀ μ9 : TMem, Fr 2 μ μ9 → (μ9 k3 1).toInt ≤ 97 → Q μ9) (hX : ∀ (E : String) (μ9 : TMem), E ∈ ex_S → Fr 2 μ μ9 → X E μ9) : wp_X9_makeOrThrow k2 k3 μ a1 Q X :=
  g_makeBy k2 hk2 k3 hk3 μ a1 (fun r μ9 b9 f9 hS => ⟨fun c => h _ f9 (hS c), fun _ => hX _ _ (by decide) f9⟩)
theorem f_X9_text (μ : TMem) (a1 : Int32) (a2 : Int32) {Q : TMem → Prop} {X : String → TMem → Prop} (h : ∀ μ9 : TMem, Fr 2 μ μ9 → Q μ9) (hX : ∀ (E : String) (μ9 : TMem), E ∈ ex_IAS → Fr 2 μ μ9 → X E μ9) : wp_X9_text μ a1 a2 Q X := by
  refine f_X9_machineAt μ a1 (fun k2 μ1 hk2 f1 => ?_) (fun E μ9 e9 f9 => hX E μ9 (ex_sub (by decide) e9) (up2 f9))
  refine f_X9_checkRange μ1 a2 (0 : Int32) (3 : Int32) (fun μ3 f3 => ?_) (fun E μ9 e9 f9 => hX E μ9 (ex_sub (by decide) e9) (up2 (f1.trans f9)))
  exact g_makeOrThrow k2 hk2 57 rfl μ3 a2 (fun μ4 f4 hS => ⟨by omega, h _ ((up2 (f1.trans f3)).trans f4)⟩) (fun E μ9 e9 f9 => hX E μ9 (ex_sub (by decide) e9) ((up2 (f1.trans f3)).trans f9))
theorem f_X9_word (μ : TMem) (a1 : Int32) (a2 : Int32) {Q : TMem → Prop} {X : String → TMem → Prop} (h : ∀ μ9 : TMem, Fr 2 μ μ9 → Q μ9) (hX : ∀ (E : String) (μ9 : TMem), E ∈ ex_IAS → Fr 2 μ μ9 → X E μ9) : wp_X9_word μ a1 a2 Q X := by
  refine f_X9_machineAt μ a1 (fun k2 μ1 hk2 f1 => ?_) (fun E μ9 e9 f9 => hX E μ9 (ex_sub (by decide) e9) (up2 f9))
  refine ⟨fun _ => ?_, fun _ => hX _ _ (by decide) (up2 f1)⟩
  refine f_X9_makeOrThrow k2 hk2 57 rfl μ1 (0 : Int32) (fun μ4 f4 => ?_) (fun E μ9 e9 f9 => hX E μ9 (ex_sub (by decide) e9) ((up2 f1).trans f9))
  exact f_X8_count 57 rfl μ4 (fun μ5 f5 => h _ (((up2 f1).trans f4).trans (f5.up (by decide))))
theorem f_X9_apart (μ : TMem) (a1 : Int32) (a2 : Int32) {Q : TMem → Prop} {X : String → TMem → Prop} (hG : GB μ) (h : ∀ μ9 : TMem, Fr 2 μ μ9 → Q μ9) (hX : ∀ (E : String) (μ9 : TMem), E ∈ ex_IS → Fr 2 μ μ9 → X E μ9) : wp_X9_apart μ a1 a2 Q X := by
  refine f_X9_machineAt μ a1 (fun k2 μ1 hk2 f1 => ?_) (fun E μ9 e9 f9 => hX E μ9 (ex_sub (by decide) e9) (up2 f9))
  refine f_X9_machineAt μ1 a2 (fun k4 μ3 hk4 f3 => ?_) (fun E μ9 e9 f9 => hX E μ9 (ex_sub (by decide) e9) (up2 (f1.trans f9)))
  refine f_X9_meetOrThrow k2 hk2 k4 hk4 μ3 (fun μ5 f5 => ?_) (fun E μ9 e9 f9 => hX E μ9 (ex_sub (by decide) e9) ((up2 (f1.trans f3)).trans f9))
  have f9 := (up2 (f1.trans f3)).trans f5
  exact ⟨fun _ => ⟨f9.2 hG, h _ f9⟩, fun _ => h _ f9⟩
end GLS
end
