/-! part 9k.llib -/
section
section LLB
def KQ (μ μ9 : TMem) : Prop := μ9 0 13 = μ 0 13 ∧ (GB μ → GB μ9)
theorem Fr.kq {lv : Nat} {μ μ1 : TMem} (f : Fr lv μ μ1) (hp : prot lv (kd 0) 13 = true) : KQ μ μ1 := ⟨f.1 0 13 hp, f.2⟩
/-- the law's own object: what an answer was -/
abbrev OC (q : Nat) (nv : Int64) (sv : Value) : Nat × va_E := (q, .inr (9, [.long nv, sv]))
def LA (ad : Nat → Nat) (q sz : Nat) : Nat → Prop := fun a => TA ad sz a ∨ a = q
def NCl : List (String × String) := [("java/lang/IllegalArgumentException", "java/lang/IllegalStateException"), ("java/lang/IllegalArgumentException", "java/lang/IndexOutOfBoundsException"), ("java/lang/IllegalStateException", "java/lang/IllegalArgumentException"), ("java/lang/IllegalStateException", "java/lang/IndexOutOfBoundsException"), ("java/lang/IndexOutOfBoundsException", "java/lang/IllegalArgumentException"), ("java/lang/IndexOutOfBoundsException", "java/lang/IllegalStateException")]
def NC (U : State) : Prop := ∀ x ∈ NCl, va_Nc x.1 x.2 U
theorem NC.moved {u U : State} (h : u.vm.Alike U.vm) (hN : NC u) : NC U := fun x hx => (hN x hx).moved h
def LB (D : va_G) (ad : Nat → Nat) (cI cM cB : ClassId) (sz : Nat) (μ : TMem) (q : Nat) (nv : Int64) (sv : Value) : State → Prop := fun U => TBXS D ad cI cM cB sz μ U ∧ va_at D CL (OC q nv sv) U.heap ∧ (∀ k, k < 59 → q ≠ ad k) ∧ NC U
/-- a wrapper of the law's: never throws; its answer, the tree and the law's own object behind it are as PW says -/
def LWm (l : Launch) (y : MethodName) (cd : Cond) (h c n : Nat) (as : List Value) (D : va_G) (ad : Nat → Nat) (cI cM cB : ClassId) (sz : Nat) (μ : TMem) (q : Nat) (nv : Int64) (sv : Value) (PW : Int32 → TMem × Int64 × Value → Prop) : Prop := vx_Met l y (cd :: W0) (RX h c n) (va_Pc as (LB D ad cI cM cB sz μ q nv sv)) (va_Qi PW (fun u t => va_P D CL (TRX ad cI cM u.1) t.heap ∧ va_at D CL (OC q u.2.1 u.2.2) t.heap) (LA ad q sz)) (vx_X (fun _ : Unit => True) (fun _ _ _ => False) (LA ad q sz)) c n (LA ad q sz)
variable {p : Program} {l : Launch} {e : Env} {R : Room} {s : State} {m : MethodId} {args : Array Value} {below : List Frame} {meth : Method} {c : Code} {H : Heap} {locs : List Loc} {cells slots : Nat} {Q : State → Prop}
variable {cc : ByteArray} {pc : Nat} {ls : Array Slot} {rest : List Value} {D : va_G} {ad : Nat → Nat} {cI cM cB : ClassId} {μ μ1 : TMem} {q : Nat} {nv : Int64} {sv : Value} {X : String → TMem → Prop} {a : Array Value} {st0 : List Value} {mc ms : Nat}
theorem LB.blind {as : List Value} {sz : Nat} : FrameBlind (va_Pc as (LB D ad cI cM cB sz μ q nv sv)) := fun z U g mk h => by
  obtain ⟨q0, q1, q2, q3, q4⟩ := h
  exact ⟨q0, (TBXS.blind z U g mk ⟨q0, q1⟩).2, q2, q3, NC.moved (u := U) (U := U.calling g mk z) (Vm.Alike.refl U.vm) q4⟩
theorem LA.out (hne : ∀ k, k < 59 → q ≠ ad k) {sz : Nat} (hq : q < sz) : ¬ TA ad sz q := fun z => z.elim (fun ⟨k, hk, e⟩ => hne k hk e) (fun z => absurd hq (Nat.not_lt.mpr z))
theorem LW.mk (hI : TI ad) (hO : va_at D CL (OC q nv sv) s.heap) (hne : ∀ k, k < 59 → q ≠ ad k) (hP : va_P D CL (TRX ad cI cM μ1) H) (hk : ∀ z : Nat, z < s.heap.size → ¬ TA ad s.heap.size z → H[z]? = s.heap[z]?) (hS : va_S (LA ad q s.heap.size) s.heap H locs) : MW D (TRX ad cI cM μ1) [OC q nv sv] (LA ad q s.heap.size) s H locs := by
  have hD := hI.D (cI := cI) (cM := cM) (μ := μ1) (sz := s.heap.size)
  refine ⟨hP.app (fun k x hx => ?_), va_D.app ⟨hD.1, fun k x hx => Or.inl (hD.2 k x hx)⟩ ⟨fun i j x y hx hy e => ?_, fun k x hx => ?_⟩ (fun i j x y hx hy e => ?_), hS, fun z h => Or.inl (Or.inr h)⟩
  · cases k with
    | zero => cases hx; exact hO.kept (hk q hO.lt (LA.out hne hO.lt))
    | succ k => simp at hx
  · cases i with
    | zero => cases j with
      | zero => rfl
      | succ j => simp at hy
    | succ i => simp at hx
  · cases k with
    | zero => cases hx; exact Or.inr rfl
    | succ k => simp at hx
  · cases j with
    | zero =>
      cases hy
      obtain ⟨hi, rfl⟩ := TRX_of hx
      exact hne i hi e.symm
    | succ j => simp at hy
theorem L_calli {Q1 : Int32 → TMem → Prop} (hw : TW D ad cI cM s μ s.heap []) (hO : va_at D CL (OC q nv sv) s.heap) (hne : ∀ k, k < 59 → q ≠ ad k) (hr : vx_Run p l e R s m args below meth c s.heap [] cells slots mc ms (F0 m pc ls st0) rest (va_Qi Q1 (TE D ad cI cM) (TA ad s.heap.size) a) (vx_X (fun _ : TMem => True) (TEX D ad cI cM X) (TA ad s.heap.size)) (TA ad s.heap.size))
    (kx : ∀ (E : String) (ce : Cell) (q9 : Addr) (μ1 : TMem) (H1 : Heap) (locs1 : List Loc), X E μ1 → MW D (TRX ad cI cM μ1) [OC q nv sv] (LA ad q s.heap.size) s H1 locs1 → H1[q9]? = some ce → ce.vm = .none → s.vm.findClass E = some ce.cls → vx_W p l e R s m args below meth c H1 locs1 (cells + mc) (slots + ms) Q (F0 m pc ls rest) q9)
    (kk : ∀ (r : Int32) (μ1 : TMem) (H1 : Heap) (locs1 : List Loc), Q1 r μ1 → MW D (TRX ad cI cM μ1) [OC q nv sv] (LA ad q s.heap.size) s H1 locs1 → W p l e R s m args below meth c H1 locs1 (cells + mc) (slots + ms) Q (F0 m (pc + 3) ls (.int r :: rest))) : W p l e R s m args below meth c s.heap [] cells slots Q (F0 m pc ls st0) :=
  vx_calli hr (va_S.rf : va_S (LA ad q s.heap.size) s.heap s.heap []) (fun q _ h => Or.inl h) (fun q h => Or.inl h) (fun q _ h => Or.inl h)
    (fun E ce q9 u t H1 locs1 ht _ _ hB _ hk hS h1 h2 h3 => kx E ce q9 u H1 locs1 hB.1 (LW.mk hw.2.1 hO hne (by rw [← ht]; exact hB.2) hk hS) h1 h2 h3)
    (fun r u t H1 locs1 ht _ hq hB _ hk hS => kk r u H1 locs1 hq (LW.mk hw.2.1 hO hne (by rw [← ht]; exact hB) hk hS))
theorem L_calls {Q1 : TMem → Prop} (hw : TW D ad cI cM s μ s.heap []) (hO : va_at D CL (OC q nv sv) s.heap) (hne : ∀ k, k < 59 → q ≠ ad k) (hr : vx_Run p l e R s m args below meth c s.heap [] cells slots mc ms (F0 m pc ls st0) rest (va_Qq (fun (_ : Option Nat) (u : TMem) => Q1 u) (TE D ad cI cM) (TA ad s.heap.size) a) (vx_X (fun _ : TMem => True) (TEX D ad cI cM X) (TA ad s.heap.size)) (TA ad s.heap.size))
    (kx : ∀ (E : String) (ce : Cell) (q9 : Addr) (μ1 : TMem) (H1 : Heap) (locs1 : List Loc), X E μ1 → MW D (TRX ad cI cM μ1) [OC q nv sv] (LA ad q s.heap.size) s H1 locs1 → H1[q9]? = some ce → ce.vm = .none → s.vm.findClass E = some ce.cls → vx_W p l e R s m args below meth c H1 locs1 (cells + mc) (slots + ms) Q (F0 m pc ls rest) q9)
    (kk : ∀ (r : Option Nat) (μ1 : TMem) (H1 : Heap) (locs1 : List Loc), Q1 μ1 → MW D (TRX ad cI cM μ1) [OC q nv sv] (LA ad q s.heap.size) s H1 locs1 → W p l e R s m args below meth c H1 locs1 (cells + mc) (slots + ms) Q (F0 m (pc + 3) ls (va_rf r :: rest))) : W p l e R s m args below meth c s.heap [] cells slots Q (F0 m pc ls st0) :=
  vx_callq2 hr (va_S.rf : va_S (LA ad q s.heap.size) s.heap s.heap []) (fun q _ h => Or.inl h) (fun q h => Or.inl h) (fun q _ h => Or.inl h)
    (fun E ce q9 u t H1 locs1 ht _ _ hB _ hk hS h1 h2 h3 => kx E ce q9 u H1 locs1 hB.1 (LW.mk hw.2.1 hO hne (by rw [← ht]; exact hB.2) hk hS) h1 h2 h3)
    (fun r u t H1 locs1 ht _ hq hB _ hk hS => kk r u H1 locs1 hq (LW.mk hw.2.1 hO hne (by rw [← ht]; exact hB) hk hS))
theorem L_putn {v : Int64} (hx : p.tables.exec = Jvm.exec) (hb : c.code = cc) (ht : ∀ w ∈ W0, w.before args s = true) (hown : s.vm.findClass "LeastreaderLaw" = some m.cls) (hN : NW s) (hK : TK D cI cM s) (hw : MW D (TRX ad cI cM μ) [OC q nv sv] (LA ad q s.heap.size) s H locs) (hdg : decode cc pc = .ok (.putfield 13, 3))
    (kk : ∀ (H1 : Heap) (locs1 : List Loc), MW D (TRX ad cI cM μ) [OC q v sv] (LA ad q s.heap.size) s H1 locs1 → W p l e R s m args below meth c H1 locs1 cells slots Q (F0 m (pc + 3) ls rest)) : W p l e R s m args below meth c H locs cells slots Q (F0 m pc ls (.long v :: .ref q :: rest)) := by
  refine va_putN (ty := .long) hx hb ht in_9 tyX10 tyX10_ok nmX10 hown hK hw.1 hw.2.1 hw.2.2.1 ((TRX ad cI cM μ).length + 0) (NAT rfl) cl_9 0 (by decide) (nwu_581 hN) (fun _ h => h) rfl (by decide +kernel) rfl rfl (Nat.le_of_ble_eq_true rfl) hdg (fun H1 locs1 hP hD hS => kk H1 locs1 ?_)
  rw [set_r] at hP hD
  exact ⟨hP, hD, hS, hw.2.2.2⟩
theorem L_puts {r : Option Nat} (hx : p.tables.exec = Jvm.exec) (hb : c.code = cc) (ht : ∀ w ∈ W0, w.before args s = true) (hown : s.vm.findClass "LeastreaderLaw" = some m.cls) (hN : NW s) (hK : TK D cI cM s) (hw : MW D (TRX ad cI cM μ) [OC q nv sv] (LA ad q s.heap.size) s H locs) (hdg : decode cc pc = .ok (.putfield 87, 3))
    (kk : ∀ (H1 : Heap) (locs1 : List Loc), MW D (TRX ad cI cM μ) [OC q nv (va_rf r)] (LA ad q s.heap.size) s H1 locs1 → W p l e R s m args below meth c H1 locs1 cells slots Q (F0 m (pc + 3) ls rest)) : W p l e R s m args below meth c H locs cells slots Q (F0 m pc ls (va_rf r :: .ref q :: rest)) := by
  refine va_putN (ty := .object "java/lang/String") hx hb ht in_9 tyX10 tyX10_ok nmX10 hown hK hw.1 hw.2.1 hw.2.2.1 ((TRX ad cI cM μ).length + 0) (NAT rfl) cl_9 1 (by decide) (nwu_582 hN) (fun _ h => h) rfl (by decide +kernel) (by cases r <;> rfl) (by cases r <;> rfl) (Nat.le_of_ble_eq_true rfl) hdg (fun H1 locs1 hP hD hS => kk H1 locs1 ?_)
  rw [set_r] at hP hD
  exact ⟨hP, hD, hS, hw.2.2.2⟩
theorem L_met {l : Launch} {y : MethodName} {bytes : ByteArray} {maxL : Nat} {hh : List (Nat × Nat × Nat × Nat)} {h fc fn : Nat} {as : List Value} {D : va_G} {ad : Nat → Nat} {cI cM cB : ClassId} {sz : Nat} {μ : TMem} {q : Nat} {nv : Int64} {sv : Value} {PW : Int32 → TMem × Int64 × Value → Prop} (hy : plainName y.cls = true) (hsl : (lg_sl as).length ≤ maxL)
    (body : ∀ (p : Program) (e : Env) (s : State) (m : MethodId) (below : List Frame) (meth : Method) (c : Code) (Z : State → Prop) (ls : Array Slot), p.tables.exec = Jvm.exec → c.code = bytes → c.maxLocals = maxL → s.vm.findClass y.cls = some m.cls → (∀ w ∈ W0, w.before as.toArray s = true) → NW s → TK D cI cM s → SX ad s → JK D cB s → CN s → ZS (TA ad s.heap.size) s s.heap → NC s → c.exceptionTable.toList = tableOf hh → TW D ad cI cM s μ s.heap [] → va_at D CL (OC q nv sv) s.heap → (∀ k, k < 59 → q ≠ ad k) →
      (∀ (H : Heap) (locs : List Loc) (ls : Array Slot) (pc cells slots : Nat) (r : Int32) (μ1 : TMem) (nv1 : Int64) (sv1 : Value), MW D (TRX ad cI cM μ1) [OC q nv1 sv1] (LA ad q s.heap.size) s H locs → PW r (μ1, nv1, sv1) → cells ≤ fc → slots ≤ fn → decode bytes pc = .ok (.ireturn, 1) → W p l e (RX h fc fn) s m as.toArray below meth c H locs cells slots Z (F0 m pc ls [.int r])) → lv_has ls maxL (lv_args 0 as) →
      W p l e (RX h fc fn) s m as.toArray below meth c s.heap [] 0 0 Z (F0 m 0 ls [])) : LWm l y (.codeWith y bytes maxL (some .int) hh) h fc fn as D ad cI cM cB sz μ q nv sv PW := by
  refine vx_ofWH (cc := bytes) (maxL := maxL) (ret := some .int) (hh := hh) hy rfl ?_
  intro p e s m args below meth c s₁ B hml hv
  obtain ⟨rfl, ⟨⟨⟨hsz, hP, hK, hI, hN⟩, hX⟩, hJ, hC, hZ⟩, hO, hne, hNC⟩ := hv
  subst hsz
  have hts := atoms_spec B.pre
  have hlocks := B.notSynchronized
  have htab := vx_table (x := y) B (hts _ List.mem_cons_self)
  rw [lg_entry_eq]
  exact body p e s m below meth c _ _ B.exec B.bytes hml (findClass_of_methodNamed B.named) (fun w hw => hts w (List.mem_cons_of_mem _ hw)) hN hK hX hJ hC hZ hNC htab ⟨hP, hI, va_S.rf⟩ hO hne (fun H locs ls pc cells slots r μ1 nv1 sv1 hw hq hc hs hdg =>
      W.widen hc hs (vx_ret (W.zret B.exec B.bytes B.returns rfl (fun t ht9 hW => ⟨⟨r, (μ1, nv1, sv1), rfl, hq, by rw [ht9]; exact fun k x hk => hw.1 k x (by rw [List.getElem?_append_left (List.getElem?_eq_some_iff.mp hk).1]; exact hk), by rw [ht9]; exact hw.n (j := 0) rfl⟩, hw.2.2.1.F ht9⟩) hw.2.2.1.2.2 hdg hlocks))) (lv_entry as hsl)
end LLB
end
/-! part 9l.ulwx -/
section
set_option maxRecDepth 100000 in
theorem db_cL_begin_dL_begin_0_0 : zw [(0, .aload_n 3, 1), (1, .aload_n 0, 1), (2, .iload_n 1, 1), (3, .iload_n 2, 1), (4, .invokevirtual 7, 3), (7, .i2l, 1), (8, .putfield 13, 3), (11, .goto 11, 3), (14, .astore 4, 2), (16, .iconst 1, 1), (17, .ireturn, 1), (18, .astore 4, 2), (20, .iconst 2, 1), (21, .ireturn, 1), (22, .iconst 0, 1), (23, .ireturn, 1)] (cL_begin.data.toList.drop 0) 0 = true := by decide +kernel
def dc_cL_begin_dL_begin_0_0 := zw_16 db_cL_begin_dL_begin_0_0
def dL_begin_0 := dc_cL_begin_dL_begin_0_0.1
def dL_begin_1 := dc_cL_begin_dL_begin_0_0.2.1
def dL_begin_2 := dc_cL_begin_dL_begin_0_0.2.2.1
def dL_begin_3 := dc_cL_begin_dL_begin_0_0.2.2.2.1
def dL_begin_4 := dc_cL_begin_dL_begin_0_0.2.2.2.2.1
def dL_begin_7 := dc_cL_begin_dL_begin_0_0.2.2.2.2.2.1
def dL_begin_8 := dc_cL_begin_dL_begin_0_0.2.2.2.2.2.2.1
def dL_begin_11 := dc_cL_begin_dL_begin_0_0.2.2.2.2.2.2.2.1
def dL_begin_14 := dc_cL_begin_dL_begin_0_0.2.2.2.2.2.2.2.2.1
def dL_begin_16 := dc_cL_begin_dL_begin_0_0.2.2.2.2.2.2.2.2.2.1
def dL_begin_17 := dc_cL_begin_dL_begin_0_0.2.2.2.2.2.2.2.2.2.2.1
def dL_begin_18 := dc_cL_begin_dL_begin_0_0.2.2.2.2.2.2.2.2.2.2.2.1
def dL_begin_20 := dc_cL_begin_dL_begin_0_0.2.2.2.2.2.2.2.2.2.2.2.2.1
def dL_begin_21 := dc_cL_begin_dL_begin_0_0.2.2.2.2.2.2.2.2.2.2.2.2.2.1
def dL_begin_22 := dc_cL_begin_dL_begin_0_0.2.2.2.2.2.2.2.2.2.2.2.2.2.2.1
def dL_begin_23 := dc_cL_begin_dL_begin_0_0.2.2.2.2.2.2.2.2.2.2.2.2.2.2.2
set_option maxRecDepth 100000 in
theorem db_cL_arrow_dL_arrow_0_0 : zw [(0, .aload 6, 2), (2, .aload_n 0, 1), (3, .iload_n 1, 1), (4, .iload_n 2, 1), (5, .iload_n 3, 1), (6, .iload 4, 2), (8, .iload 5, 2), (10, .invokevirtual 23, 3), (13, .i2l, 1), (14, .putfield 13, 3), (17, .goto 11, 3), (20, .astore 7, 2), (22, .iconst 1, 1), (23, .ireturn, 1), (24, .astore 7, 2), (26, .iconst 2, 1)] (cL_arrow.data.toList.drop 0) 0 = true := by decide +kernel
def dc_cL_arrow_dL_arrow_0_0 := zw_16 db_cL_arrow_dL_arrow_0_0
def dL_arrow_0 := dc_cL_arrow_dL_arrow_0_0.1
def dL_arrow_2 := dc_cL_arrow_dL_arrow_0_0.2.1
def dL_arrow_3 := dc_cL_arrow_dL_arrow_0_0.2.2.1
def dL_arrow_4 := dc_cL_arrow_dL_arrow_0_0.2.2.2.1
def dL_arrow_5 := dc_cL_arrow_dL_arrow_0_0.2.2.2.2.1
def dL_arrow_6 := dc_cL_arrow_dL_arrow_0_0.2.2.2.2.2.1
def dL_arrow_8 := dc_cL_arrow_dL_arrow_0_0.2.2.2.2.2.2.1
def dL_arrow_10 := dc_cL_arrow_dL_arrow_0_0.2.2.2.2.2.2.2.1
def dL_arrow_13 := dc_cL_arrow_dL_arrow_0_0.2.2.2.2.2.2.2.2.1
def dL_arrow_14 := dc_cL_arrow_dL_arrow_0_0.2.2.2.2.2.2.2.2.2.1
def dL_arrow_17 := dc_cL_arrow_dL_arrow_0_0.2.2.2.2.2.2.2.2.2.2.1
def dL_arrow_20 := dc_cL_arrow_dL_arrow_0_0.2.2.2.2.2.2.2.2.2.2.2.1
def dL_arrow_22 := dc_cL_arrow_dL_arrow_0_0.2.2.2.2.2.2.2.2.2.2.2.2.1
def dL_arrow_23 := dc_cL_arrow_dL_arrow_0_0.2.2.2.2.2.2.2.2.2.2.2.2.2.1
def dL_arrow_24 := dc_cL_arrow_dL_arrow_0_0.2.2.2.2.2.2.2.2.2.2.2.2.2.2.1
def dL_arrow_26 := dc_cL_arrow_dL_arrow_0_0.2.2.2.2.2.2.2.2.2.2.2.2.2.2.2
set_option maxRecDepth 100000 in
theorem db_cL_arrow_dL_arrow_27_1 : zw [(27, .ireturn, 1), (28, .iconst 0, 1), (29, .ireturn, 1)] (cL_arrow.data.toList.drop 27) 27 = true := by decide +kernel
def dc_cL_arrow_dL_arrow_27_1 := zw_3 db_cL_arrow_dL_arrow_27_1
def dL_arrow_27 := dc_cL_arrow_dL_arrow_27_1.1
def dL_arrow_28 := dc_cL_arrow_dL_arrow_27_1.2.1
def dL_arrow_29 := dc_cL_arrow_dL_arrow_27_1.2.2
set_option maxRecDepth 100000 in
theorem db_cL_lead_dL_lead_0_0 : zw [(0, .aload 5, 2), (2, .aload_n 0, 1), (3, .iload_n 1, 1), (4, .iload_n 2, 1), (5, .iload_n 3, 1), (6, .iload 4, 2), (8, .invokevirtual 27, 3), (11, .i2l, 1), (12, .putfield 13, 3), (15, .goto 11, 3), (18, .astore 6, 2), (20, .iconst 1, 1), (21, .ireturn, 1), (22, .astore 6, 2), (24, .iconst 2, 1), (25, .ireturn, 1)] (cL_lead.data.toList.drop 0) 0 = true := by decide +kernel
def dc_cL_lead_dL_lead_0_0 := zw_16 db_cL_lead_dL_lead_0_0
def dL_lead_0 := dc_cL_lead_dL_lead_0_0.1
def dL_lead_2 := dc_cL_lead_dL_lead_0_0.2.1
def dL_lead_3 := dc_cL_lead_dL_lead_0_0.2.2.1
def dL_lead_4 := dc_cL_lead_dL_lead_0_0.2.2.2.1
def dL_lead_5 := dc_cL_lead_dL_lead_0_0.2.2.2.2.1
def dL_lead_6 := dc_cL_lead_dL_lead_0_0.2.2.2.2.2.1
def dL_lead_8 := dc_cL_lead_dL_lead_0_0.2.2.2.2.2.2.1
def dL_lead_11 := dc_cL_lead_dL_lead_0_0.2.2.2.2.2.2.2.1
def dL_lead_12 := dc_cL_lead_dL_lead_0_0.2.2.2.2.2.2.2.2.1
def dL_lead_15 := dc_cL_lead_dL_lead_0_0.2.2.2.2.2.2.2.2.2.1
def dL_lead_18 := dc_cL_lead_dL_lead_0_0.2.2.2.2.2.2.2.2.2.2.1
def dL_lead_20 := dc_cL_lead_dL_lead_0_0.2.2.2.2.2.2.2.2.2.2.2.1
def dL_lead_21 := dc_cL_lead_dL_lead_0_0.2.2.2.2.2.2.2.2.2.2.2.2.1
def dL_lead_22 := dc_cL_lead_dL_lead_0_0.2.2.2.2.2.2.2.2.2.2.2.2.2.1
def dL_lead_24 := dc_cL_lead_dL_lead_0_0.2.2.2.2.2.2.2.2.2.2.2.2.2.2.1
def dL_lead_25 := dc_cL_lead_dL_lead_0_0.2.2.2.2.2.2.2.2.2.2.2.2.2.2.2
set_option maxRecDepth 100000 in
theorem db_cL_lead_dL_lead_26_1 : zw [(26, .iconst 0, 1), (27, .ireturn, 1)] (cL_lead.data.toList.drop 26) 26 = true := by decide +kernel
def dc_cL_lead_dL_lead_26_1 := zw_2 db_cL_lead_dL_lead_26_1
def dL_lead_26 := dc_cL_lead_dL_lead_26_1.1
def dL_lead_27 := dc_cL_lead_dL_lead_26_1.2
set_option maxRecDepth 100000 in
theorem db_cL_mark_dL_mark_0_0 : zw [(0, .aload 5, 2), (2, .aload_n 0, 1), (3, .iload_n 1, 1), (4, .iload_n 2, 1), (5, .iload_n 3, 1), (6, .iload 4, 2), (8, .invokevirtual 31, 3), (11, .i2l, 1), (12, .putfield 13, 3), (15, .goto 7, 3), (18, .astore 6, 2), (20, .iconst 1, 1), (21, .ireturn, 1), (22, .iconst 0, 1), (23, .ireturn, 1)] (cL_mark.data.toList.drop 0) 0 = true := by decide +kernel
def dc_cL_mark_dL_mark_0_0 := zw_15 db_cL_mark_dL_mark_0_0
def dL_mark_0 := dc_cL_mark_dL_mark_0_0.1
def dL_mark_2 := dc_cL_mark_dL_mark_0_0.2.1
def dL_mark_3 := dc_cL_mark_dL_mark_0_0.2.2.1
def dL_mark_4 := dc_cL_mark_dL_mark_0_0.2.2.2.1
def dL_mark_5 := dc_cL_mark_dL_mark_0_0.2.2.2.2.1
def dL_mark_6 := dc_cL_mark_dL_mark_0_0.2.2.2.2.2.1
def dL_mark_8 := dc_cL_mark_dL_mark_0_0.2.2.2.2.2.2.1
def dL_mark_11 := dc_cL_mark_dL_mark_0_0.2.2.2.2.2.2.2.1
def dL_mark_12 := dc_cL_mark_dL_mark_0_0.2.2.2.2.2.2.2.2.1
def dL_mark_15 := dc_cL_mark_dL_mark_0_0.2.2.2.2.2.2.2.2.2.1
def dL_mark_18 := dc_cL_mark_dL_mark_0_0.2.2.2.2.2.2.2.2.2.2.1
def dL_mark_20 := dc_cL_mark_dL_mark_0_0.2.2.2.2.2.2.2.2.2.2.2.1
def dL_mark_21 := dc_cL_mark_dL_mark_0_0.2.2.2.2.2.2.2.2.2.2.2.2.1
def dL_mark_22 := dc_cL_mark_dL_mark_0_0.2.2.2.2.2.2.2.2.2.2.2.2.2.1
def dL_mark_23 := dc_cL_mark_dL_mark_0_0.2.2.2.2.2.2.2.2.2.2.2.2.2.2
set_option maxRecDepth 100000 in
theorem db_cL_sow_dL_sow_0_0 : zw [(0, .aload 5, 2), (2, .aload_n 0, 1), (3, .iload_n 1, 1), (4, .iload_n 2, 1), (5, .iload_n 3, 1), (6, .iload 4, 2), (8, .invokevirtual 35, 3), (11, .i2l, 1), (12, .putfield 13, 3), (15, .goto 11, 3), (18, .astore 6, 2), (20, .iconst 1, 1), (21, .ireturn, 1), (22, .astore 6, 2), (24, .iconst 2, 1), (25, .ireturn, 1)] (cL_sow.data.toList.drop 0) 0 = true := by decide +kernel
def dc_cL_sow_dL_sow_0_0 := zw_16 db_cL_sow_dL_sow_0_0
def dL_sow_0 := dc_cL_sow_dL_sow_0_0.1
def dL_sow_2 := dc_cL_sow_dL_sow_0_0.2.1
def dL_sow_3 := dc_cL_sow_dL_sow_0_0.2.2.1
def dL_sow_4 := dc_cL_sow_dL_sow_0_0.2.2.2.1
def dL_sow_5 := dc_cL_sow_dL_sow_0_0.2.2.2.2.1
def dL_sow_6 := dc_cL_sow_dL_sow_0_0.2.2.2.2.2.1
def dL_sow_8 := dc_cL_sow_dL_sow_0_0.2.2.2.2.2.2.1
def dL_sow_11 := dc_cL_sow_dL_sow_0_0.2.2.2.2.2.2.2.1
def dL_sow_12 := dc_cL_sow_dL_sow_0_0.2.2.2.2.2.2.2.2.1
def dL_sow_15 := dc_cL_sow_dL_sow_0_0.2.2.2.2.2.2.2.2.2.1
def dL_sow_18 := dc_cL_sow_dL_sow_0_0.2.2.2.2.2.2.2.2.2.2.1
def dL_sow_20 := dc_cL_sow_dL_sow_0_0.2.2.2.2.2.2.2.2.2.2.2.1
def dL_sow_21 := dc_cL_sow_dL_sow_0_0.2.2.2.2.2.2.2.2.2.2.2.2.1
def dL_sow_22 := dc_cL_sow_dL_sow_0_0.2.2.2.2.2.2.2.2.2.2.2.2.2.1
def dL_sow_24 := dc_cL_sow_dL_sow_0_0.2.2.2.2.2.2.2.2.2.2.2.2.2.2.1
def dL_sow_25 := dc_cL_sow_dL_sow_0_0.2.2.2.2.2.2.2.2.2.2.2.2.2.2.2
set_option maxRecDepth 100000 in
theorem db_cL_sow_dL_sow_26_1 : zw [(26, .iconst 0, 1), (27, .ireturn, 1)] (cL_sow.data.toList.drop 26) 26 = true := by decide +kernel
def dc_cL_sow_dL_sow_26_1 := zw_2 db_cL_sow_dL_sow_26_1
def dL_sow_26 := dc_cL_sow_dL_sow_26_1.1
def dL_sow_27 := dc_cL_sow_dL_sow_26_1.2
set_option maxRecDepth 100000 in
theorem db_cL_copy_dL_copy_0_0 : zw [(0, .aload_n 3, 1), (1, .aload_n 0, 1), (2, .iload_n 1, 1), (3, .iload_n 2, 1), (4, .invokevirtual 38, 3), (7, .i2l, 1), (8, .putfield 13, 3), (11, .goto 7, 3), (14, .astore 4, 2), (16, .iconst 1, 1), (17, .ireturn, 1), (18, .iconst 0, 1), (19, .ireturn, 1)] (cL_copy.data.toList.drop 0) 0 = true := by decide +kernel
def dc_cL_copy_dL_copy_0_0 := zw_13 db_cL_copy_dL_copy_0_0
def dL_copy_0 := dc_cL_copy_dL_copy_0_0.1
def dL_copy_1 := dc_cL_copy_dL_copy_0_0.2.1
def dL_copy_2 := dc_cL_copy_dL_copy_0_0.2.2.1
def dL_copy_3 := dc_cL_copy_dL_copy_0_0.2.2.2.1
def dL_copy_4 := dc_cL_copy_dL_copy_0_0.2.2.2.2.1
def dL_copy_7 := dc_cL_copy_dL_copy_0_0.2.2.2.2.2.1
def dL_copy_8 := dc_cL_copy_dL_copy_0_0.2.2.2.2.2.2.1
def dL_copy_11 := dc_cL_copy_dL_copy_0_0.2.2.2.2.2.2.2.1
def dL_copy_14 := dc_cL_copy_dL_copy_0_0.2.2.2.2.2.2.2.2.1
def dL_copy_16 := dc_cL_copy_dL_copy_0_0.2.2.2.2.2.2.2.2.2.1
def dL_copy_17 := dc_cL_copy_dL_copy_0_0.2.2.2.2.2.2.2.2.2.2.1
def dL_copy_18 := dc_cL_copy_dL_copy_0_0.2.2.2.2.2.2.2.2.2.2.2.1
def dL_copy_19 := dc_cL_copy_dL_copy_0_0.2.2.2.2.2.2.2.2.2.2.2.2
set_option maxRecDepth 100000 in
theorem db_cL_swap_dL_swap_0_0 : zw [(0, .aload_n 3, 1), (1, .aload_n 0, 1), (2, .iload_n 1, 1), (3, .iload_n 2, 1), (4, .invokevirtual 41, 3), (7, .i2l, 1), (8, .putfield 13, 3), (11, .goto 7, 3), (14, .astore 4, 2), (16, .iconst 1, 1), (17, .ireturn, 1), (18, .iconst 0, 1), (19, .ireturn, 1)] (cL_swap.data.toList.drop 0) 0 = true := by decide +kernel
def dc_cL_swap_dL_swap_0_0 := zw_13 db_cL_swap_dL_swap_0_0
def dL_swap_0 := dc_cL_swap_dL_swap_0_0.1
def dL_swap_1 := dc_cL_swap_dL_swap_0_0.2.1
def dL_swap_2 := dc_cL_swap_dL_swap_0_0.2.2.1
def dL_swap_3 := dc_cL_swap_dL_swap_0_0.2.2.2.1
def dL_swap_4 := dc_cL_swap_dL_swap_0_0.2.2.2.2.1
def dL_swap_7 := dc_cL_swap_dL_swap_0_0.2.2.2.2.2.1
def dL_swap_8 := dc_cL_swap_dL_swap_0_0.2.2.2.2.2.2.1
def dL_swap_11 := dc_cL_swap_dL_swap_0_0.2.2.2.2.2.2.2.1
def dL_swap_14 := dc_cL_swap_dL_swap_0_0.2.2.2.2.2.2.2.2.1
def dL_swap_16 := dc_cL_swap_dL_swap_0_0.2.2.2.2.2.2.2.2.2.1
def dL_swap_17 := dc_cL_swap_dL_swap_0_0.2.2.2.2.2.2.2.2.2.2.1
def dL_swap_18 := dc_cL_swap_dL_swap_0_0.2.2.2.2.2.2.2.2.2.2.2.1
def dL_swap_19 := dc_cL_swap_dL_swap_0_0.2.2.2.2.2.2.2.2.2.2.2.2
set_option maxRecDepth 100000 in
theorem db_cL_turn_dL_turn_0_0 : zw [(0, .aload_n 2, 1), (1, .aload_n 0, 1), (2, .iload_n 1, 1), (3, .invokevirtual 44, 3), (6, .i2l, 1), (7, .putfield 13, 3), (10, .goto 6, 3), (13, .astore_n 3, 1), (14, .iconst 1, 1), (15, .ireturn, 1), (16, .iconst 0, 1), (17, .ireturn, 1)] (cL_turn.data.toList.drop 0) 0 = true := by decide +kernel
def dc_cL_turn_dL_turn_0_0 := zw_12 db_cL_turn_dL_turn_0_0
def dL_turn_0 := dc_cL_turn_dL_turn_0_0.1
def dL_turn_1 := dc_cL_turn_dL_turn_0_0.2.1
def dL_turn_2 := dc_cL_turn_dL_turn_0_0.2.2.1
def dL_turn_3 := dc_cL_turn_dL_turn_0_0.2.2.2.1
def dL_turn_6 := dc_cL_turn_dL_turn_0_0.2.2.2.2.1
def dL_turn_7 := dc_cL_turn_dL_turn_0_0.2.2.2.2.2.1
def dL_turn_10 := dc_cL_turn_dL_turn_0_0.2.2.2.2.2.2.1
def dL_turn_13 := dc_cL_turn_dL_turn_0_0.2.2.2.2.2.2.2.1
def dL_turn_14 := dc_cL_turn_dL_turn_0_0.2.2.2.2.2.2.2.2.1
def dL_turn_15 := dc_cL_turn_dL_turn_0_0.2.2.2.2.2.2.2.2.2.1
def dL_turn_16 := dc_cL_turn_dL_turn_0_0.2.2.2.2.2.2.2.2.2.2.1
def dL_turn_17 := dc_cL_turn_dL_turn_0_0.2.2.2.2.2.2.2.2.2.2.2
set_option maxRecDepth 100000 in
theorem db_cL_other_dL_other_0_0 : zw [(0, .aload_n 2, 1), (1, .aload_n 0, 1), (2, .iload_n 1, 1), (3, .invokevirtual 48, 3), (6, .i2l, 1), (7, .putfield 13, 3), (10, .goto 6, 3), (13, .astore_n 3, 1), (14, .iconst 1, 1), (15, .ireturn, 1), (16, .iconst 0, 1), (17, .ireturn, 1)] (cL_other.data.toList.drop 0) 0 = true := by decide +kernel
def dc_cL_other_dL_other_0_0 := zw_12 db_cL_other_dL_other_0_0
def dL_other_0 := dc_cL_other_dL_other_0_0.1
def dL_other_1 := dc_cL_other_dL_other_0_0.2.1
def dL_other_2 := dc_cL_other_dL_other_0_0.2.2.1
def dL_other_3 := dc_cL_other_dL_other_0_0.2.2.2.1
def dL_other_6 := dc_cL_other_dL_other_0_0.2.2.2.2.1
def dL_other_7 := dc_cL_other_dL_other_0_0.2.2.2.2.2.1
def dL_other_10 := dc_cL_other_dL_other_0_0.2.2.2.2.2.2.1
def dL_other_13 := dc_cL_other_dL_other_0_0.2.2.2.2.2.2.2.1
def dL_other_14 := dc_cL_other_dL_other_0_0.2.2.2.2.2.2.2.2.1
def dL_other_15 := dc_cL_other_dL_other_0_0.2.2.2.2.2.2.2.2.2.1
def dL_other_16 := dc_cL_other_dL_other_0_0.2.2.2.2.2.2.2.2.2.2.1
def dL_other_17 := dc_cL_other_dL_other_0_0.2.2.2.2.2.2.2.2.2.2.2
set_option maxRecDepth 100000 in
theorem db_cL_grow_dL_grow_0_0 : zw [(0, .aload_n 2, 1), (1, .aload_n 0, 1), (2, .iload_n 1, 1), (3, .invokevirtual 51, 3), (6, .i2l, 1), (7, .putfield 13, 3), (10, .goto 6, 3), (13, .astore_n 3, 1), (14, .iconst 1, 1), (15, .ireturn, 1), (16, .iconst 0, 1), (17, .ireturn, 1)] (cL_grow.data.toList.drop 0) 0 = true := by decide +kernel
def dc_cL_grow_dL_grow_0_0 := zw_12 db_cL_grow_dL_grow_0_0
def dL_grow_0 := dc_cL_grow_dL_grow_0_0.1
def dL_grow_1 := dc_cL_grow_dL_grow_0_0.2.1
def dL_grow_2 := dc_cL_grow_dL_grow_0_0.2.2.1
def dL_grow_3 := dc_cL_grow_dL_grow_0_0.2.2.2.1
def dL_grow_6 := dc_cL_grow_dL_grow_0_0.2.2.2.2.1
def dL_grow_7 := dc_cL_grow_dL_grow_0_0.2.2.2.2.2.1
def dL_grow_10 := dc_cL_grow_dL_grow_0_0.2.2.2.2.2.2.1
def dL_grow_13 := dc_cL_grow_dL_grow_0_0.2.2.2.2.2.2.2.1
def dL_grow_14 := dc_cL_grow_dL_grow_0_0.2.2.2.2.2.2.2.2.1
def dL_grow_15 := dc_cL_grow_dL_grow_0_0.2.2.2.2.2.2.2.2.2.1
def dL_grow_16 := dc_cL_grow_dL_grow_0_0.2.2.2.2.2.2.2.2.2.2.1
def dL_grow_17 := dc_cL_grow_dL_grow_0_0.2.2.2.2.2.2.2.2.2.2.2
set_option maxRecDepth 100000 in
theorem db_cL_drop_dL_drop_0_0 : zw [(0, .aload_n 3, 1), (1, .aload_n 0, 1), (2, .iload_n 1, 1), (3, .iload_n 2, 1), (4, .invokevirtual 54, 3), (7, .i2l, 1), (8, .putfield 13, 3), (11, .goto 7, 3), (14, .astore 4, 2), (16, .iconst 1, 1), (17, .ireturn, 1), (18, .iconst 0, 1), (19, .ireturn, 1)] (cL_drop.data.toList.drop 0) 0 = true := by decide +kernel
def dc_cL_drop_dL_drop_0_0 := zw_13 db_cL_drop_dL_drop_0_0
def dL_drop_0 := dc_cL_drop_dL_drop_0_0.1
def dL_drop_1 := dc_cL_drop_dL_drop_0_0.2.1
def dL_drop_2 := dc_cL_drop_dL_drop_0_0.2.2.1
def dL_drop_3 := dc_cL_drop_dL_drop_0_0.2.2.2.1
def dL_drop_4 := dc_cL_drop_dL_drop_0_0.2.2.2.2.1
def dL_drop_7 := dc_cL_drop_dL_drop_0_0.2.2.2.2.2.1
def dL_drop_8 := dc_cL_drop_dL_drop_0_0.2.2.2.2.2.2.1
def dL_drop_11 := dc_cL_drop_dL_drop_0_0.2.2.2.2.2.2.2.1
def dL_drop_14 := dc_cL_drop_dL_drop_0_0.2.2.2.2.2.2.2.2.1
def dL_drop_16 := dc_cL_drop_dL_drop_0_0.2.2.2.2.2.2.2.2.2.1
def dL_drop_17 := dc_cL_drop_dL_drop_0_0.2.2.2.2.2.2.2.2.2.2.1
def dL_drop_18 := dc_cL_drop_dL_drop_0_0.2.2.2.2.2.2.2.2.2.2.2.1
def dL_drop_19 := dc_cL_drop_dL_drop_0_0.2.2.2.2.2.2.2.2.2.2.2.2
set_option maxRecDepth 100000 in
theorem db_cL_make_dL_make_0_0 : zw [(0, .aload 4, 2), (2, .aload_n 0, 1), (3, .iload_n 1, 1), (4, .iload_n 2, 1), (5, .iload_n 3, 1), (6, .invokevirtual 57, 3), (9, .i2l, 1), (10, .putfield 13, 3), (13, .goto 7, 3), (16, .astore 5, 2), (18, .iconst 1, 1), (19, .ireturn, 1), (20, .iconst 0, 1), (21, .ireturn, 1)] (cL_make.data.toList.drop 0) 0 = true := by decide +kernel
def dc_cL_make_dL_make_0_0 := zw_14 db_cL_make_dL_make_0_0
def dL_make_0 := dc_cL_make_dL_make_0_0.1
def dL_make_2 := dc_cL_make_dL_make_0_0.2.1
def dL_make_3 := dc_cL_make_dL_make_0_0.2.2.1
def dL_make_4 := dc_cL_make_dL_make_0_0.2.2.2.1
def dL_make_5 := dc_cL_make_dL_make_0_0.2.2.2.2.1
def dL_make_6 := dc_cL_make_dL_make_0_0.2.2.2.2.2.1
def dL_make_9 := dc_cL_make_dL_make_0_0.2.2.2.2.2.2.1
def dL_make_10 := dc_cL_make_dL_make_0_0.2.2.2.2.2.2.2.1
def dL_make_13 := dc_cL_make_dL_make_0_0.2.2.2.2.2.2.2.2.1
def dL_make_16 := dc_cL_make_dL_make_0_0.2.2.2.2.2.2.2.2.2.1
def dL_make_18 := dc_cL_make_dL_make_0_0.2.2.2.2.2.2.2.2.2.2.1
def dL_make_19 := dc_cL_make_dL_make_0_0.2.2.2.2.2.2.2.2.2.2.2.1
def dL_make_20 := dc_cL_make_dL_make_0_0.2.2.2.2.2.2.2.2.2.2.2.2.1
def dL_make_21 := dc_cL_make_dL_make_0_0.2.2.2.2.2.2.2.2.2.2.2.2.2
set_option maxRecDepth 100000 in
theorem db_cL_combine_dL_combine_0_0 : zw [(0, .aload 5, 2), (2, .aload_n 0, 1), (3, .iload_n 1, 1), (4, .iload_n 2, 1), (5, .iload_n 3, 1), (6, .iload 4, 2), (8, .invokevirtual 61, 3), (11, .i2l, 1), (12, .putfield 13, 3), (15, .goto 11, 3), (18, .astore 6, 2), (20, .iconst 1, 1), (21, .ireturn, 1), (22, .astore 6, 2), (24, .iconst 2, 1), (25, .ireturn, 1)] (cL_combine.data.toList.drop 0) 0 = true := by decide +kernel
def dc_cL_combine_dL_combine_0_0 := zw_16 db_cL_combine_dL_combine_0_0
def dL_combine_0 := dc_cL_combine_dL_combine_0_0.1
def dL_combine_2 := dc_cL_combine_dL_combine_0_0.2.1
def dL_combine_3 := dc_cL_combine_dL_combine_0_0.2.2.1
def dL_combine_4 := dc_cL_combine_dL_combine_0_0.2.2.2.1
def dL_combine_5 := dc_cL_combine_dL_combine_0_0.2.2.2.2.1
def dL_combine_6 := dc_cL_combine_dL_combine_0_0.2.2.2.2.2.1
def dL_combine_8 := dc_cL_combine_dL_combine_0_0.2.2.2.2.2.2.1
def dL_combine_11 := dc_cL_combine_dL_combine_0_0.2.2.2.2.2.2.2.1
def dL_combine_12 := dc_cL_combine_dL_combine_0_0.2.2.2.2.2.2.2.2.1
def dL_combine_15 := dc_cL_combine_dL_combine_0_0.2.2.2.2.2.2.2.2.2.1
def dL_combine_18 := dc_cL_combine_dL_combine_0_0.2.2.2.2.2.2.2.2.2.2.1
def dL_combine_20 := dc_cL_combine_dL_combine_0_0.2.2.2.2.2.2.2.2.2.2.2.1
def dL_combine_21 := dc_cL_combine_dL_combine_0_0.2.2.2.2.2.2.2.2.2.2.2.2.1
def dL_combine_22 := dc_cL_combine_dL_combine_0_0.2.2.2.2.2.2.2.2.2.2.2.2.2.1
def dL_combine_24 := dc_cL_combine_dL_combine_0_0.2.2.2.2.2.2.2.2.2.2.2.2.2.2.1
def dL_combine_25 := dc_cL_combine_dL_combine_0_0.2.2.2.2.2.2.2.2.2.2.2.2.2.2.2
set_option maxRecDepth 100000 in
theorem db_cL_combine_dL_combine_26_1 : zw [(26, .iconst 0, 1), (27, .ireturn, 1)] (cL_combine.data.toList.drop 26) 26 = true := by decide +kernel
def dc_cL_combine_dL_combine_26_1 := zw_2 db_cL_combine_dL_combine_26_1
def dL_combine_26 := dc_cL_combine_dL_combine_26_1.1
def dL_combine_27 := dc_cL_combine_dL_combine_26_1.2
set_option maxRecDepth 100000 in
theorem db_cL_tell_dL_tell_0_0 : zw [(0, .aload_n 3, 1), (1, .aload_n 0, 1), (2, .iload_n 1, 1), (3, .iload_n 2, 1), (4, .invokevirtual 64, 3), (7, .i2l, 1), (8, .putfield 13, 3), (11, .goto 11, 3), (14, .astore 4, 2), (16, .iconst 1, 1), (17, .ireturn, 1), (18, .astore 4, 2), (20, .iconst 2, 1), (21, .ireturn, 1), (22, .iconst 0, 1), (23, .ireturn, 1)] (cL_tell.data.toList.drop 0) 0 = true := by decide +kernel
def dc_cL_tell_dL_tell_0_0 := zw_16 db_cL_tell_dL_tell_0_0
def dL_tell_0 := dc_cL_tell_dL_tell_0_0.1
def dL_tell_1 := dc_cL_tell_dL_tell_0_0.2.1
def dL_tell_2 := dc_cL_tell_dL_tell_0_0.2.2.1
def dL_tell_3 := dc_cL_tell_dL_tell_0_0.2.2.2.1
def dL_tell_4 := dc_cL_tell_dL_tell_0_0.2.2.2.2.1
def dL_tell_7 := dc_cL_tell_dL_tell_0_0.2.2.2.2.2.1
def dL_tell_8 := dc_cL_tell_dL_tell_0_0.2.2.2.2.2.2.1
def dL_tell_11 := dc_cL_tell_dL_tell_0_0.2.2.2.2.2.2.2.1
def dL_tell_14 := dc_cL_tell_dL_tell_0_0.2.2.2.2.2.2.2.2.1
def dL_tell_16 := dc_cL_tell_dL_tell_0_0.2.2.2.2.2.2.2.2.2.1
def dL_tell_17 := dc_cL_tell_dL_tell_0_0.2.2.2.2.2.2.2.2.2.2.1
def dL_tell_18 := dc_cL_tell_dL_tell_0_0.2.2.2.2.2.2.2.2.2.2.2.1
def dL_tell_20 := dc_cL_tell_dL_tell_0_0.2.2.2.2.2.2.2.2.2.2.2.2.1
def dL_tell_21 := dc_cL_tell_dL_tell_0_0.2.2.2.2.2.2.2.2.2.2.2.2.2.1
def dL_tell_22 := dc_cL_tell_dL_tell_0_0.2.2.2.2.2.2.2.2.2.2.2.2.2.2.1
def dL_tell_23 := dc_cL_tell_dL_tell_0_0.2.2.2.2.2.2.2.2.2.2.2.2.2.2.2
set_option maxRecDepth 100000 in
theorem db_cL_arrows_dL_arrows_0_0 : zw [(0, .aload 4, 2), (2, .aload_n 0, 1), (3, .iload_n 1, 1), (4, .iload_n 2, 1), (5, .iload_n 3, 1), (6, .invokevirtual 67, 3), (9, .i2l, 1), (10, .putfield 13, 3), (13, .goto 11, 3), (16, .astore 5, 2), (18, .iconst 1, 1), (19, .ireturn, 1), (20, .astore 5, 2), (22, .iconst 2, 1), (23, .ireturn, 1), (24, .iconst 0, 1)] (cL_arrows.data.toList.drop 0) 0 = true := by decide +kernel
def dc_cL_arrows_dL_arrows_0_0 := zw_16 db_cL_arrows_dL_arrows_0_0
def dL_arrows_0 := dc_cL_arrows_dL_arrows_0_0.1
def dL_arrows_2 := dc_cL_arrows_dL_arrows_0_0.2.1
def dL_arrows_3 := dc_cL_arrows_dL_arrows_0_0.2.2.1
def dL_arrows_4 := dc_cL_arrows_dL_arrows_0_0.2.2.2.1
def dL_arrows_5 := dc_cL_arrows_dL_arrows_0_0.2.2.2.2.1
def dL_arrows_6 := dc_cL_arrows_dL_arrows_0_0.2.2.2.2.2.1
def dL_arrows_9 := dc_cL_arrows_dL_arrows_0_0.2.2.2.2.2.2.1
def dL_arrows_10 := dc_cL_arrows_dL_arrows_0_0.2.2.2.2.2.2.2.1
def dL_arrows_13 := dc_cL_arrows_dL_arrows_0_0.2.2.2.2.2.2.2.2.1
def dL_arrows_16 := dc_cL_arrows_dL_arrows_0_0.2.2.2.2.2.2.2.2.2.1
def dL_arrows_18 := dc_cL_arrows_dL_arrows_0_0.2.2.2.2.2.2.2.2.2.2.1
def dL_arrows_19 := dc_cL_arrows_dL_arrows_0_0.2.2.2.2.2.2.2.2.2.2.2.1
def dL_arrows_20 := dc_cL_arrows_dL_arrows_0_0.2.2.2.2.2.2.2.2.2.2.2.2.1
def dL_arrows_22 := dc_cL_arrows_dL_arrows_0_0.2.2.2.2.2.2.2.2.2.2.2.2.2.1
def dL_arrows_23 := dc_cL_arrows_dL_arrows_0_0.2.2.2.2.2.2.2.2.2.2.2.2.2.2.1
def dL_arrows_24 := dc_cL_arrows_dL_arrows_0_0.2.2.2.2.2.2.2.2.2.2.2.2.2.2.2
set_option maxRecDepth 100000 in
theorem db_cL_arrows_dL_arrows_25_1 : zw [(25, .ireturn, 1)] (cL_arrows.data.toList.drop 25) 25 = true := by decide +kernel
def dL_arrows_25 := zw_1 db_cL_arrows_dL_arrows_25_1
set_option maxRecDepth 100000 in
theorem db_cL_takes_dL_takes_0_0 : zw [(0, .aload 4, 2), (2, .aload_n 0, 1), (3, .iload_n 1, 1), (4, .iload_n 2, 1), (5, .iload_n 3, 1), (6, .invokevirtual 71, 3), (9, .ifCond .eq 7, 3), (12, .lconst 1, 1), (13, .goto 4, 3), (16, .lconst 0, 1), (17, .putfield 13, 3), (20, .goto 11, 3), (23, .astore 5, 2), (25, .iconst 1, 1), (26, .ireturn, 1), (27, .astore 5, 2)] (cL_takes.data.toList.drop 0) 0 = true := by decide +kernel
def dc_cL_takes_dL_takes_0_0 := zw_16 db_cL_takes_dL_takes_0_0
def dL_takes_0 := dc_cL_takes_dL_takes_0_0.1
def dL_takes_2 := dc_cL_takes_dL_takes_0_0.2.1
def dL_takes_3 := dc_cL_takes_dL_takes_0_0.2.2.1
def dL_takes_4 := dc_cL_takes_dL_takes_0_0.2.2.2.1
def dL_takes_5 := dc_cL_takes_dL_takes_0_0.2.2.2.2.1
def dL_takes_6 := dc_cL_takes_dL_takes_0_0.2.2.2.2.2.1
def dL_takes_9 := dc_cL_takes_dL_takes_0_0.2.2.2.2.2.2.1
def dL_takes_12 := dc_cL_takes_dL_takes_0_0.2.2.2.2.2.2.2.1
def dL_takes_13 := dc_cL_takes_dL_takes_0_0.2.2.2.2.2.2.2.2.1
def dL_takes_16 := dc_cL_takes_dL_takes_0_0.2.2.2.2.2.2.2.2.2.1
def dL_takes_17 := dc_cL_takes_dL_takes_0_0.2.2.2.2.2.2.2.2.2.2.1
def dL_takes_20 := dc_cL_takes_dL_takes_0_0.2.2.2.2.2.2.2.2.2.2.2.1
def dL_takes_23 := dc_cL_takes_dL_takes_0_0.2.2.2.2.2.2.2.2.2.2.2.2.1
def dL_takes_25 := dc_cL_takes_dL_takes_0_0.2.2.2.2.2.2.2.2.2.2.2.2.2.1
def dL_takes_26 := dc_cL_takes_dL_takes_0_0.2.2.2.2.2.2.2.2.2.2.2.2.2.2.1
def dL_takes_27 := dc_cL_takes_dL_takes_0_0.2.2.2.2.2.2.2.2.2.2.2.2.2.2.2
set_option maxRecDepth 100000 in
theorem db_cL_takes_dL_takes_29_1 : zw [(29, .iconst 2, 1), (30, .ireturn, 1), (31, .iconst 0, 1), (32, .ireturn, 1)] (cL_takes.data.toList.drop 29) 29 = true := by decide +kernel
def dc_cL_takes_dL_takes_29_1 := zw_4 db_cL_takes_dL_takes_29_1
def dL_takes_29 := dc_cL_takes_dL_takes_29_1.1
def dL_takes_30 := dc_cL_takes_dL_takes_29_1.2.1
def dL_takes_31 := dc_cL_takes_dL_takes_29_1.2.2.1
def dL_takes_32 := dc_cL_takes_dL_takes_29_1.2.2.2
set_option maxRecDepth 100000 in
theorem db_cL_after_dL_after_0_0 : zw [(0, .aload 5, 2), (2, .aload_n 0, 1), (3, .iload_n 1, 1), (4, .iload_n 2, 1), (5, .iload_n 3, 1), (6, .iload 4, 2), (8, .invokevirtual 75, 3), (11, .i2l, 1), (12, .putfield 13, 3), (15, .goto 15, 3), (18, .astore 6, 2), (20, .iconst 1, 1), (21, .ireturn, 1), (22, .astore 6, 2), (24, .iconst 2, 1), (25, .ireturn, 1)] (cL_after.data.toList.drop 0) 0 = true := by decide +kernel
def dc_cL_after_dL_after_0_0 := zw_16 db_cL_after_dL_after_0_0
def dL_after_0 := dc_cL_after_dL_after_0_0.1
def dL_after_2 := dc_cL_after_dL_after_0_0.2.1
def dL_after_3 := dc_cL_after_dL_after_0_0.2.2.1
def dL_after_4 := dc_cL_after_dL_after_0_0.2.2.2.1
def dL_after_5 := dc_cL_after_dL_after_0_0.2.2.2.2.1
def dL_after_6 := dc_cL_after_dL_after_0_0.2.2.2.2.2.1
def dL_after_8 := dc_cL_after_dL_after_0_0.2.2.2.2.2.2.1
def dL_after_11 := dc_cL_after_dL_after_0_0.2.2.2.2.2.2.2.1
def dL_after_12 := dc_cL_after_dL_after_0_0.2.2.2.2.2.2.2.2.1
def dL_after_15 := dc_cL_after_dL_after_0_0.2.2.2.2.2.2.2.2.2.1
def dL_after_18 := dc_cL_after_dL_after_0_0.2.2.2.2.2.2.2.2.2.2.1
def dL_after_20 := dc_cL_after_dL_after_0_0.2.2.2.2.2.2.2.2.2.2.2.1
def dL_after_21 := dc_cL_after_dL_after_0_0.2.2.2.2.2.2.2.2.2.2.2.2.1
def dL_after_22 := dc_cL_after_dL_after_0_0.2.2.2.2.2.2.2.2.2.2.2.2.2.1
def dL_after_24 := dc_cL_after_dL_after_0_0.2.2.2.2.2.2.2.2.2.2.2.2.2.2.1
def dL_after_25 := dc_cL_after_dL_after_0_0.2.2.2.2.2.2.2.2.2.2.2.2.2.2.2
set_option maxRecDepth 100000 in
theorem db_cL_after_dL_after_26_1 : zw [(26, .astore 6, 2), (28, .iconst 3, 1), (29, .ireturn, 1), (30, .iconst 0, 1), (31, .ireturn, 1)] (cL_after.data.toList.drop 26) 26 = true := by decide +kernel
def dc_cL_after_dL_after_26_1 := zw_5 db_cL_after_dL_after_26_1
def dL_after_26 := dc_cL_after_dL_after_26_1.1
def dL_after_28 := dc_cL_after_dL_after_26_1.2.1
def dL_after_29 := dc_cL_after_dL_after_26_1.2.2.1
def dL_after_30 := dc_cL_after_dL_after_26_1.2.2.2.1
def dL_after_31 := dc_cL_after_dL_after_26_1.2.2.2.2
set_option maxRecDepth 100000 in
theorem db_cL_size_dL_size_0_0 : zw [(0, .aload_n 3, 1), (1, .aload_n 0, 1), (2, .iload_n 1, 1), (3, .iload_n 2, 1), (4, .invokevirtual 80, 3), (7, .i2l, 1), (8, .putfield 13, 3), (11, .goto 15, 3), (14, .astore 4, 2), (16, .iconst 1, 1), (17, .ireturn, 1), (18, .astore 4, 2), (20, .iconst 2, 1), (21, .ireturn, 1), (22, .astore 4, 2), (24, .iconst 3, 1)] (cL_size.data.toList.drop 0) 0 = true := by decide +kernel
def dc_cL_size_dL_size_0_0 := zw_16 db_cL_size_dL_size_0_0
def dL_size_0 := dc_cL_size_dL_size_0_0.1
def dL_size_1 := dc_cL_size_dL_size_0_0.2.1
def dL_size_2 := dc_cL_size_dL_size_0_0.2.2.1
def dL_size_3 := dc_cL_size_dL_size_0_0.2.2.2.1
def dL_size_4 := dc_cL_size_dL_size_0_0.2.2.2.2.1
def dL_size_7 := dc_cL_size_dL_size_0_0.2.2.2.2.2.1
def dL_size_8 := dc_cL_size_dL_size_0_0.2.2.2.2.2.2.1
def dL_size_11 := dc_cL_size_dL_size_0_0.2.2.2.2.2.2.2.1
def dL_size_14 := dc_cL_size_dL_size_0_0.2.2.2.2.2.2.2.2.1
def dL_size_16 := dc_cL_size_dL_size_0_0.2.2.2.2.2.2.2.2.2.1
def dL_size_17 := dc_cL_size_dL_size_0_0.2.2.2.2.2.2.2.2.2.2.1
def dL_size_18 := dc_cL_size_dL_size_0_0.2.2.2.2.2.2.2.2.2.2.2.1
def dL_size_20 := dc_cL_size_dL_size_0_0.2.2.2.2.2.2.2.2.2.2.2.2.1
def dL_size_21 := dc_cL_size_dL_size_0_0.2.2.2.2.2.2.2.2.2.2.2.2.2.1
def dL_size_22 := dc_cL_size_dL_size_0_0.2.2.2.2.2.2.2.2.2.2.2.2.2.2.1
def dL_size_24 := dc_cL_size_dL_size_0_0.2.2.2.2.2.2.2.2.2.2.2.2.2.2.2
set_option maxRecDepth 100000 in
theorem db_cL_size_dL_size_25_1 : zw [(25, .ireturn, 1), (26, .iconst 0, 1), (27, .ireturn, 1)] (cL_size.data.toList.drop 25) 25 = true := by decide +kernel
def dc_cL_size_dL_size_25_1 := zw_3 db_cL_size_dL_size_25_1
def dL_size_25 := dc_cL_size_dL_size_25_1.1
def dL_size_26 := dc_cL_size_dL_size_25_1.2.1
def dL_size_27 := dc_cL_size_dL_size_25_1.2.2
set_option maxRecDepth 100000 in
theorem db_cL_text_dL_text_0_0 : zw [(0, .aload_n 3, 1), (1, .aload_n 0, 1), (2, .iload_n 1, 1), (3, .iload_n 2, 1), (4, .invokevirtual 83, 3), (7, .putfield 87, 3), (10, .goto 15, 3), (13, .astore 4, 2), (15, .iconst 1, 1), (16, .ireturn, 1), (17, .astore 4, 2), (19, .iconst 2, 1), (20, .ireturn, 1), (21, .astore 4, 2), (23, .iconst 3, 1), (24, .ireturn, 1)] (cL_text.data.toList.drop 0) 0 = true := by decide +kernel
def dc_cL_text_dL_text_0_0 := zw_16 db_cL_text_dL_text_0_0
def dL_text_0 := dc_cL_text_dL_text_0_0.1
def dL_text_1 := dc_cL_text_dL_text_0_0.2.1
def dL_text_2 := dc_cL_text_dL_text_0_0.2.2.1
def dL_text_3 := dc_cL_text_dL_text_0_0.2.2.2.1
def dL_text_4 := dc_cL_text_dL_text_0_0.2.2.2.2.1
def dL_text_7 := dc_cL_text_dL_text_0_0.2.2.2.2.2.1
def dL_text_10 := dc_cL_text_dL_text_0_0.2.2.2.2.2.2.1
def dL_text_13 := dc_cL_text_dL_text_0_0.2.2.2.2.2.2.2.1
def dL_text_15 := dc_cL_text_dL_text_0_0.2.2.2.2.2.2.2.2.1
def dL_text_16 := dc_cL_text_dL_text_0_0.2.2.2.2.2.2.2.2.2.1
def dL_text_17 := dc_cL_text_dL_text_0_0.2.2.2.2.2.2.2.2.2.2.1
def dL_text_19 := dc_cL_text_dL_text_0_0.2.2.2.2.2.2.2.2.2.2.2.1
def dL_text_20 := dc_cL_text_dL_text_0_0.2.2.2.2.2.2.2.2.2.2.2.2.1
def dL_text_21 := dc_cL_text_dL_text_0_0.2.2.2.2.2.2.2.2.2.2.2.2.2.1
def dL_text_23 := dc_cL_text_dL_text_0_0.2.2.2.2.2.2.2.2.2.2.2.2.2.2.1
def dL_text_24 := dc_cL_text_dL_text_0_0.2.2.2.2.2.2.2.2.2.2.2.2.2.2.2
set_option maxRecDepth 100000 in
theorem db_cL_text_dL_text_25_1 : zw [(25, .iconst 0, 1), (26, .ireturn, 1)] (cL_text.data.toList.drop 25) 25 = true := by decide +kernel
def dc_cL_text_dL_text_25_1 := zw_2 db_cL_text_dL_text_25_1
def dL_text_25 := dc_cL_text_dL_text_25_1.1
def dL_text_26 := dc_cL_text_dL_text_25_1.2
set_option maxRecDepth 100000 in
theorem db_cL_kind_dL_kind_0_0 : zw [(0, .aload_n 2, 1), (1, .aload_n 0, 1), (2, .iload_n 1, 1), (3, .invokevirtual 91, 3), (6, .i2l, 1), (7, .putfield 13, 3), (10, .goto 9, 3), (13, .astore_n 3, 1), (14, .iconst 1, 1), (15, .ireturn, 1), (16, .astore_n 3, 1), (17, .iconst 2, 1), (18, .ireturn, 1), (19, .iconst 0, 1), (20, .ireturn, 1)] (cL_kind.data.toList.drop 0) 0 = true := by decide +kernel
def dc_cL_kind_dL_kind_0_0 := zw_15 db_cL_kind_dL_kind_0_0
def dL_kind_0 := dc_cL_kind_dL_kind_0_0.1
def dL_kind_1 := dc_cL_kind_dL_kind_0_0.2.1
def dL_kind_2 := dc_cL_kind_dL_kind_0_0.2.2.1
def dL_kind_3 := dc_cL_kind_dL_kind_0_0.2.2.2.1
def dL_kind_6 := dc_cL_kind_dL_kind_0_0.2.2.2.2.1
def dL_kind_7 := dc_cL_kind_dL_kind_0_0.2.2.2.2.2.1
def dL_kind_10 := dc_cL_kind_dL_kind_0_0.2.2.2.2.2.2.1
def dL_kind_13 := dc_cL_kind_dL_kind_0_0.2.2.2.2.2.2.2.1
def dL_kind_14 := dc_cL_kind_dL_kind_0_0.2.2.2.2.2.2.2.2.1
def dL_kind_15 := dc_cL_kind_dL_kind_0_0.2.2.2.2.2.2.2.2.2.1
def dL_kind_16 := dc_cL_kind_dL_kind_0_0.2.2.2.2.2.2.2.2.2.2.1
def dL_kind_17 := dc_cL_kind_dL_kind_0_0.2.2.2.2.2.2.2.2.2.2.2.1
def dL_kind_18 := dc_cL_kind_dL_kind_0_0.2.2.2.2.2.2.2.2.2.2.2.2.1
def dL_kind_19 := dc_cL_kind_dL_kind_0_0.2.2.2.2.2.2.2.2.2.2.2.2.2.1
def dL_kind_20 := dc_cL_kind_dL_kind_0_0.2.2.2.2.2.2.2.2.2.2.2.2.2.2
set_option maxRecDepth 100000 in
theorem db_cL_many_dL_many_0_0 : zw [(0, .aload 4, 2), (2, .aload_n 0, 1), (3, .iload_n 1, 1), (4, .iload_n 2, 1), (5, .iload_n 3, 1), (6, .invokevirtual 94, 3), (9, .i2l, 1), (10, .putfield 13, 3), (13, .goto 15, 3), (16, .astore 5, 2), (18, .iconst 1, 1), (19, .ireturn, 1), (20, .astore 5, 2), (22, .iconst 2, 1), (23, .ireturn, 1), (24, .astore 5, 2)] (cL_many.data.toList.drop 0) 0 = true := by decide +kernel
def dc_cL_many_dL_many_0_0 := zw_16 db_cL_many_dL_many_0_0
def dL_many_0 := dc_cL_many_dL_many_0_0.1
def dL_many_2 := dc_cL_many_dL_many_0_0.2.1
def dL_many_3 := dc_cL_many_dL_many_0_0.2.2.1
def dL_many_4 := dc_cL_many_dL_many_0_0.2.2.2.1
def dL_many_5 := dc_cL_many_dL_many_0_0.2.2.2.2.1
def dL_many_6 := dc_cL_many_dL_many_0_0.2.2.2.2.2.1
def dL_many_9 := dc_cL_many_dL_many_0_0.2.2.2.2.2.2.1
def dL_many_10 := dc_cL_many_dL_many_0_0.2.2.2.2.2.2.2.1
def dL_many_13 := dc_cL_many_dL_many_0_0.2.2.2.2.2.2.2.2.1
def dL_many_16 := dc_cL_many_dL_many_0_0.2.2.2.2.2.2.2.2.2.1
def dL_many_18 := dc_cL_many_dL_many_0_0.2.2.2.2.2.2.2.2.2.2.1
def dL_many_19 := dc_cL_many_dL_many_0_0.2.2.2.2.2.2.2.2.2.2.2.1
def dL_many_20 := dc_cL_many_dL_many_0_0.2.2.2.2.2.2.2.2.2.2.2.2.1
def dL_many_22 := dc_cL_many_dL_many_0_0.2.2.2.2.2.2.2.2.2.2.2.2.2.1
def dL_many_23 := dc_cL_many_dL_many_0_0.2.2.2.2.2.2.2.2.2.2.2.2.2.2.1
def dL_many_24 := dc_cL_many_dL_many_0_0.2.2.2.2.2.2.2.2.2.2.2.2.2.2.2
set_option maxRecDepth 100000 in
theorem db_cL_many_dL_many_26_1 : zw [(26, .iconst 3, 1), (27, .ireturn, 1), (28, .iconst 0, 1), (29, .ireturn, 1)] (cL_many.data.toList.drop 26) 26 = true := by decide +kernel
def dc_cL_many_dL_many_26_1 := zw_4 db_cL_many_dL_many_26_1
def dL_many_26 := dc_cL_many_dL_many_26_1.1
def dL_many_27 := dc_cL_many_dL_many_26_1.2.1
def dL_many_28 := dc_cL_many_dL_many_26_1.2.2.1
def dL_many_29 := dc_cL_many_dL_many_26_1.2.2.2
set_option maxRecDepth 100000 in
theorem db_cL_word_dL_word_0_0 : zw [(0, .aload_n 3, 1), (1, .aload_n 0, 1), (2, .iload_n 1, 1), (3, .iload_n 2, 1), (4, .invokevirtual 97, 3), (7, .putfield 87, 3), (10, .goto 15, 3), (13, .astore 4, 2), (15, .iconst 1, 1), (16, .ireturn, 1), (17, .astore 4, 2), (19, .iconst 2, 1), (20, .ireturn, 1), (21, .astore 4, 2), (23, .iconst 3, 1), (24, .ireturn, 1)] (cL_word.data.toList.drop 0) 0 = true := by decide +kernel
def dc_cL_word_dL_word_0_0 := zw_16 db_cL_word_dL_word_0_0
def dL_word_0 := dc_cL_word_dL_word_0_0.1
def dL_word_1 := dc_cL_word_dL_word_0_0.2.1
def dL_word_2 := dc_cL_word_dL_word_0_0.2.2.1
def dL_word_3 := dc_cL_word_dL_word_0_0.2.2.2.1
def dL_word_4 := dc_cL_word_dL_word_0_0.2.2.2.2.1
def dL_word_7 := dc_cL_word_dL_word_0_0.2.2.2.2.2.1
def dL_word_10 := dc_cL_word_dL_word_0_0.2.2.2.2.2.2.1
def dL_word_13 := dc_cL_word_dL_word_0_0.2.2.2.2.2.2.2.1
def dL_word_15 := dc_cL_word_dL_word_0_0.2.2.2.2.2.2.2.2.1
def dL_word_16 := dc_cL_word_dL_word_0_0.2.2.2.2.2.2.2.2.2.1
def dL_word_17 := dc_cL_word_dL_word_0_0.2.2.2.2.2.2.2.2.2.2.1
def dL_word_19 := dc_cL_word_dL_word_0_0.2.2.2.2.2.2.2.2.2.2.2.1
def dL_word_20 := dc_cL_word_dL_word_0_0.2.2.2.2.2.2.2.2.2.2.2.2.1
def dL_word_21 := dc_cL_word_dL_word_0_0.2.2.2.2.2.2.2.2.2.2.2.2.2.1
def dL_word_23 := dc_cL_word_dL_word_0_0.2.2.2.2.2.2.2.2.2.2.2.2.2.2.1
def dL_word_24 := dc_cL_word_dL_word_0_0.2.2.2.2.2.2.2.2.2.2.2.2.2.2.2
set_option maxRecDepth 100000 in
theorem db_cL_word_dL_word_25_1 : zw [(25, .iconst 0, 1), (26, .ireturn, 1)] (cL_word.data.toList.drop 25) 25 = true := by decide +kernel
def dc_cL_word_dL_word_25_1 := zw_2 db_cL_word_dL_word_25_1
def dL_word_25 := dc_cL_word_dL_word_25_1.1
def dL_word_26 := dc_cL_word_dL_word_25_1.2
set_option maxRecDepth 100000 in
theorem db_cL_isAlike_dL_isAlike_0_0 : zw [(0, .aload 4, 2), (2, .aload_n 0, 1), (3, .iload_n 1, 1), (4, .iload_n 2, 1), (5, .iload_n 3, 1), (6, .invokevirtual 100, 3), (9, .ifCond .eq 7, 3), (12, .lconst 1, 1), (13, .goto 4, 3), (16, .lconst 0, 1), (17, .putfield 13, 3), (20, .goto 15, 3), (23, .astore 5, 2), (25, .iconst 1, 1), (26, .ireturn, 1), (27, .astore 5, 2)] (cL_isAlike.data.toList.drop 0) 0 = true := by decide +kernel
def dc_cL_isAlike_dL_isAlike_0_0 := zw_16 db_cL_isAlike_dL_isAlike_0_0
def dL_isAlike_0 := dc_cL_isAlike_dL_isAlike_0_0.1
def dL_isAlike_2 := dc_cL_isAlike_dL_isAlike_0_0.2.1
def dL_isAlike_3 := dc_cL_isAlike_dL_isAlike_0_0.2.2.1
def dL_isAlike_4 := dc_cL_isAlike_dL_isAlike_0_0.2.2.2.1
def dL_isAlike_5 := dc_cL_isAlike_dL_isAlike_0_0.2.2.2.2.1
def dL_isAlike_6 := dc_cL_isAlike_dL_isAlike_0_0.2.2.2.2.2.1
def dL_isAlike_9 := dc_cL_isAlike_dL_isAlike_0_0.2.2.2.2.2.2.1
def dL_isAlike_12 := dc_cL_isAlike_dL_isAlike_0_0.2.2.2.2.2.2.2.1
def dL_isAlike_13 := dc_cL_isAlike_dL_isAlike_0_0.2.2.2.2.2.2.2.2.1
def dL_isAlike_16 := dc_cL_isAlike_dL_isAlike_0_0.2.2.2.2.2.2.2.2.2.1
def dL_isAlike_17 := dc_cL_isAlike_dL_isAlike_0_0.2.2.2.2.2.2.2.2.2.2.1
def dL_isAlike_20 := dc_cL_isAlike_dL_isAlike_0_0.2.2.2.2.2.2.2.2.2.2.2.1
def dL_isAlike_23 := dc_cL_isAlike_dL_isAlike_0_0.2.2.2.2.2.2.2.2.2.2.2.2.1
def dL_isAlike_25 := dc_cL_isAlike_dL_isAlike_0_0.2.2.2.2.2.2.2.2.2.2.2.2.2.1
def dL_isAlike_26 := dc_cL_isAlike_dL_isAlike_0_0.2.2.2.2.2.2.2.2.2.2.2.2.2.2.1
def dL_isAlike_27 := dc_cL_isAlike_dL_isAlike_0_0.2.2.2.2.2.2.2.2.2.2.2.2.2.2.2
set_option maxRecDepth 100000 in
theorem db_cL_isAlike_dL_isAlike_29_1 : zw [(29, .iconst 2, 1), (30, .ireturn, 1), (31, .astore 5, 2), (33, .iconst 3, 1), (34, .ireturn, 1), (35, .iconst 0, 1), (36, .ireturn, 1)] (cL_isAlike.data.toList.drop 29) 29 = true := by decide +kernel
def dc_cL_isAlike_dL_isAlike_29_1 := zw_7 db_cL_isAlike_dL_isAlike_29_1
def dL_isAlike_29 := dc_cL_isAlike_dL_isAlike_29_1.1
def dL_isAlike_30 := dc_cL_isAlike_dL_isAlike_29_1.2.1
def dL_isAlike_31 := dc_cL_isAlike_dL_isAlike_29_1.2.2.1
def dL_isAlike_33 := dc_cL_isAlike_dL_isAlike_29_1.2.2.2.1
def dL_isAlike_34 := dc_cL_isAlike_dL_isAlike_29_1.2.2.2.2.1
def dL_isAlike_35 := dc_cL_isAlike_dL_isAlike_29_1.2.2.2.2.2.1
def dL_isAlike_36 := dc_cL_isAlike_dL_isAlike_29_1.2.2.2.2.2.2
set_option maxRecDepth 100000 in
theorem db_cL_apart_dL_apart_0_0 : zw [(0, .aload_n 3, 1), (1, .aload_n 0, 1), (2, .iload_n 1, 1), (3, .iload_n 2, 1), (4, .invokevirtual 103, 3), (7, .putfield 87, 3), (10, .goto 11, 3), (13, .astore 4, 2), (15, .iconst 1, 1), (16, .ireturn, 1), (17, .astore 4, 2), (19, .iconst 2, 1), (20, .ireturn, 1), (21, .iconst 0, 1), (22, .ireturn, 1)] (cL_apart.data.toList.drop 0) 0 = true := by decide +kernel
def dc_cL_apart_dL_apart_0_0 := zw_15 db_cL_apart_dL_apart_0_0
def dL_apart_0 := dc_cL_apart_dL_apart_0_0.1
def dL_apart_1 := dc_cL_apart_dL_apart_0_0.2.1
def dL_apart_2 := dc_cL_apart_dL_apart_0_0.2.2.1
def dL_apart_3 := dc_cL_apart_dL_apart_0_0.2.2.2.1
def dL_apart_4 := dc_cL_apart_dL_apart_0_0.2.2.2.2.1
def dL_apart_7 := dc_cL_apart_dL_apart_0_0.2.2.2.2.2.1
def dL_apart_10 := dc_cL_apart_dL_apart_0_0.2.2.2.2.2.2.1
def dL_apart_13 := dc_cL_apart_dL_apart_0_0.2.2.2.2.2.2.2.1
def dL_apart_15 := dc_cL_apart_dL_apart_0_0.2.2.2.2.2.2.2.2.1
def dL_apart_16 := dc_cL_apart_dL_apart_0_0.2.2.2.2.2.2.2.2.2.1
def dL_apart_17 := dc_cL_apart_dL_apart_0_0.2.2.2.2.2.2.2.2.2.2.1
def dL_apart_19 := dc_cL_apart_dL_apart_0_0.2.2.2.2.2.2.2.2.2.2.2.1
def dL_apart_20 := dc_cL_apart_dL_apart_0_0.2.2.2.2.2.2.2.2.2.2.2.2.1
def dL_apart_21 := dc_cL_apart_dL_apart_0_0.2.2.2.2.2.2.2.2.2.2.2.2.2.1
def dL_apart_22 := dc_cL_apart_dL_apart_0_0.2.2.2.2.2.2.2.2.2.2.2.2.2.2
set_option maxRecDepth 100000 in
theorem db_cL_pairs_dL_pairs_0_0 : zw [(0, .aload_n 3, 1), (1, .aload_n 0, 1), (2, .iload_n 1, 1), (3, .iload_n 2, 1), (4, .invokevirtual 106, 3), (7, .i2l, 1), (8, .putfield 13, 3), (11, .goto 11, 3), (14, .astore 4, 2), (16, .iconst 1, 1), (17, .ireturn, 1), (18, .astore 4, 2), (20, .iconst 2, 1), (21, .ireturn, 1), (22, .iconst 0, 1), (23, .ireturn, 1)] (cL_pairs.data.toList.drop 0) 0 = true := by decide +kernel
def dc_cL_pairs_dL_pairs_0_0 := zw_16 db_cL_pairs_dL_pairs_0_0
def dL_pairs_0 := dc_cL_pairs_dL_pairs_0_0.1
def dL_pairs_1 := dc_cL_pairs_dL_pairs_0_0.2.1
def dL_pairs_2 := dc_cL_pairs_dL_pairs_0_0.2.2.1
def dL_pairs_3 := dc_cL_pairs_dL_pairs_0_0.2.2.2.1
def dL_pairs_4 := dc_cL_pairs_dL_pairs_0_0.2.2.2.2.1
def dL_pairs_7 := dc_cL_pairs_dL_pairs_0_0.2.2.2.2.2.1
def dL_pairs_8 := dc_cL_pairs_dL_pairs_0_0.2.2.2.2.2.2.1
def dL_pairs_11 := dc_cL_pairs_dL_pairs_0_0.2.2.2.2.2.2.2.1
def dL_pairs_14 := dc_cL_pairs_dL_pairs_0_0.2.2.2.2.2.2.2.2.1
def dL_pairs_16 := dc_cL_pairs_dL_pairs_0_0.2.2.2.2.2.2.2.2.2.1
def dL_pairs_17 := dc_cL_pairs_dL_pairs_0_0.2.2.2.2.2.2.2.2.2.2.1
def dL_pairs_18 := dc_cL_pairs_dL_pairs_0_0.2.2.2.2.2.2.2.2.2.2.2.1
def dL_pairs_20 := dc_cL_pairs_dL_pairs_0_0.2.2.2.2.2.2.2.2.2.2.2.2.1
def dL_pairs_21 := dc_cL_pairs_dL_pairs_0_0.2.2.2.2.2.2.2.2.2.2.2.2.2.1
def dL_pairs_22 := dc_cL_pairs_dL_pairs_0_0.2.2.2.2.2.2.2.2.2.2.2.2.2.2.1
def dL_pairs_23 := dc_cL_pairs_dL_pairs_0_0.2.2.2.2.2.2.2.2.2.2.2.2.2.2.2
set_option maxRecDepth 100000 in
theorem db_cL_together_dL_together_0_0 : zw [(0, .aload 5, 2), (2, .aload_n 0, 1), (3, .iload_n 1, 1), (4, .iload_n 2, 1), (5, .iload_n 3, 1), (6, .iload 4, 2), (8, .invokevirtual 109, 3), (11, .i2l, 1), (12, .putfield 13, 3), (15, .goto 15, 3), (18, .astore 6, 2), (20, .iconst 1, 1), (21, .ireturn, 1), (22, .astore 6, 2), (24, .iconst 2, 1), (25, .ireturn, 1)] (cL_together.data.toList.drop 0) 0 = true := by decide +kernel
def dc_cL_together_dL_together_0_0 := zw_16 db_cL_together_dL_together_0_0
def dL_together_0 := dc_cL_together_dL_together_0_0.1
def dL_together_2 := dc_cL_together_dL_together_0_0.2.1
def dL_together_3 := dc_cL_together_dL_together_0_0.2.2.1
def dL_together_4 := dc_cL_together_dL_together_0_0.2.2.2.1
def dL_together_5 := dc_cL_together_dL_together_0_0.2.2.2.2.1
def dL_together_6 := dc_cL_together_dL_together_0_0.2.2.2.2.2.1
def dL_together_8 := dc_cL_together_dL_together_0_0.2.2.2.2.2.2.1
def dL_together_11 := dc_cL_together_dL_together_0_0.2.2.2.2.2.2.2.1
def dL_together_12 := dc_cL_together_dL_together_0_0.2.2.2.2.2.2.2.2.1
def dL_together_15 := dc_cL_together_dL_together_0_0.2.2.2.2.2.2.2.2.2.1
def dL_together_18 := dc_cL_together_dL_together_0_0.2.2.2.2.2.2.2.2.2.2.1
def dL_together_20 := dc_cL_together_dL_together_0_0.2.2.2.2.2.2.2.2.2.2.2.1
def dL_together_21 := dc_cL_together_dL_together_0_0.2.2.2.2.2.2.2.2.2.2.2.2.1
def dL_together_22 := dc_cL_together_dL_together_0_0.2.2.2.2.2.2.2.2.2.2.2.2.2.1
def dL_together_24 := dc_cL_together_dL_together_0_0.2.2.2.2.2.2.2.2.2.2.2.2.2.2.1
def dL_together_25 := dc_cL_together_dL_together_0_0.2.2.2.2.2.2.2.2.2.2.2.2.2.2.2
set_option maxRecDepth 100000 in
theorem db_cL_together_dL_together_26_1 : zw [(26, .astore 6, 2), (28, .iconst 3, 1), (29, .ireturn, 1), (30, .iconst 0, 1), (31, .ireturn, 1)] (cL_together.data.toList.drop 26) 26 = true := by decide +kernel
def dc_cL_together_dL_together_26_1 := zw_5 db_cL_together_dL_together_26_1
def dL_together_26 := dc_cL_together_dL_together_26_1.1
def dL_together_28 := dc_cL_together_dL_together_26_1.2.1
def dL_together_29 := dc_cL_together_dL_together_26_1.2.2.1
def dL_together_30 := dc_cL_together_dL_together_26_1.2.2.2.1
def dL_together_31 := dc_cL_together_dL_together_26_1.2.2.2.2
set_option maxRecDepth 100000 in
theorem db_cL_house_dL_house_0_0 : zw [(0, .aload_n 2, 1), (1, .aload_n 0, 1), (2, .iload_n 1, 1), (3, .invokevirtual 112, 3), (6, .i2l, 1), (7, .putfield 13, 3), (10, .goto 6, 3), (13, .astore_n 3, 1), (14, .iconst 1, 1), (15, .ireturn, 1), (16, .iconst 0, 1), (17, .ireturn, 1)] (cL_house.data.toList.drop 0) 0 = true := by decide +kernel
def dc_cL_house_dL_house_0_0 := zw_12 db_cL_house_dL_house_0_0
def dL_house_0 := dc_cL_house_dL_house_0_0.1
def dL_house_1 := dc_cL_house_dL_house_0_0.2.1
def dL_house_2 := dc_cL_house_dL_house_0_0.2.2.1
def dL_house_3 := dc_cL_house_dL_house_0_0.2.2.2.1
def dL_house_6 := dc_cL_house_dL_house_0_0.2.2.2.2.1
def dL_house_7 := dc_cL_house_dL_house_0_0.2.2.2.2.2.1
def dL_house_10 := dc_cL_house_dL_house_0_0.2.2.2.2.2.2.1
def dL_house_13 := dc_cL_house_dL_house_0_0.2.2.2.2.2.2.2.1
def dL_house_14 := dc_cL_house_dL_house_0_0.2.2.2.2.2.2.2.2.1
def dL_house_15 := dc_cL_house_dL_house_0_0.2.2.2.2.2.2.2.2.2.1
def dL_house_16 := dc_cL_house_dL_house_0_0.2.2.2.2.2.2.2.2.2.2.1
def dL_house_17 := dc_cL_house_dL_house_0_0.2.2.2.2.2.2.2.2.2.2.2
theorem wd_0 : (yX9_begin : MethodName).cls ≠ "java/lang/invoke/MethodHandle" ∧ (yX9_begin : MethodName).cls ≠ "java/lang/invoke/VarHandle" ∧ (parseMethodDescriptor (yX9_begin : MethodName).desc).map (fun d => d.parameters.length) = some 2 := by decide +kernel
theorem wd_1 : (yX9_arrow : MethodName).cls ≠ "java/lang/invoke/MethodHandle" ∧ (yX9_arrow : MethodName).cls ≠ "java/lang/invoke/VarHandle" ∧ (parseMethodDescriptor (yX9_arrow : MethodName).desc).map (fun d => d.parameters.length) = some 5 := by decide +kernel
theorem wd_2 : (yX9_lead : MethodName).cls ≠ "java/lang/invoke/MethodHandle" ∧ (yX9_lead : MethodName).cls ≠ "java/lang/invoke/VarHandle" ∧ (parseMethodDescriptor (yX9_lead : MethodName).desc).map (fun d => d.parameters.length) = some 4 := by decide +kernel
theorem wd_3 : (yX9_mark : MethodName).cls ≠ "java/lang/invoke/MethodHandle" ∧ (yX9_mark : MethodName).cls ≠ "java/lang/invoke/VarHandle" ∧ (parseMethodDescriptor (yX9_mark : MethodName).desc).map (fun d => d.parameters.length) = some 4 := by decide +kernel
theorem wd_4 : (yX9_sow : MethodName).cls ≠ "java/lang/invoke/MethodHandle" ∧ (yX9_sow : MethodName).cls ≠ "java/lang/invoke/VarHandle" ∧ (parseMethodDescriptor (yX9_sow : MethodName).desc).map (fun d => d.parameters.length) = some 4 := by decide +kernel
theorem wd_5 : (yX9_copy : MethodName).cls ≠ "java/lang/invoke/MethodHandle" ∧ (yX9_copy : MethodName).cls ≠ "java/lang/invoke/VarHandle" ∧ (parseMethodDescriptor (yX9_copy : MethodName).desc).map (fun d => d.parameters.length) = some 2 := by decide +kernel
theorem wd_6 : (yX9_swap : MethodName).cls ≠ "java/lang/invoke/MethodHandle" ∧ (yX9_swap : MethodName).cls ≠ "java/lang/invoke/VarHandle" ∧ (parseMethodDescriptor (yX9_swap : MethodName).desc).map (fun d => d.parameters.length) = some 2 := by decide +kernel
theorem wd_7 : (yX9_turn : MethodName).cls ≠ "java/lang/invoke/MethodHandle" ∧ (yX9_turn : MethodName).cls ≠ "java/lang/invoke/VarHandle" ∧ (parseMethodDescriptor (yX9_turn : MethodName).desc).map (fun d => d.parameters.length) = some 1 := by decide +kernel
theorem wd_8 : (yX9_other : MethodName).cls ≠ "java/lang/invoke/MethodHandle" ∧ (yX9_other : MethodName).cls ≠ "java/lang/invoke/VarHandle" ∧ (parseMethodDescriptor (yX9_other : MethodName).desc).map (fun d => d.parameters.length) = some 1 := by decide +kernel
theorem wd_9 : (yX9_grow : MethodName).cls ≠ "java/lang/invoke/MethodHandle" ∧ (yX9_grow : MethodName).cls ≠ "java/lang/invoke/VarHandle" ∧ (parseMethodDescriptor (yX9_grow : MethodName).desc).map (fun d => d.parameters.length) = some 1 := by decide +kernel
theorem wd_10 : (yX9_drop : MethodName).cls ≠ "java/lang/invoke/MethodHandle" ∧ (yX9_drop : MethodName).cls ≠ "java/lang/invoke/VarHandle" ∧ (parseMethodDescriptor (yX9_drop : MethodName).desc).map (fun d => d.parameters.length) = some 2 := by decide +kernel
theorem wd_11 : (yX9_make : MethodName).cls ≠ "java/lang/invoke/MethodHandle" ∧ (yX9_make : MethodName).cls ≠ "java/lang/invoke/VarHandle" ∧ (parseMethodDescriptor (yX9_make : MethodName).desc).map (fun d => d.parameters.length) = some 3 := by decide +kernel
theorem wd_12 : (yX9_combine : MethodName).cls ≠ "java/lang/invoke/MethodHandle" ∧ (yX9_combine : MethodName).cls ≠ "java/lang/invoke/VarHandle" ∧ (parseMethodDescriptor (yX9_combine : MethodName).desc).map (fun d => d.parameters.length) = some 4 := by decide +kernel
theorem wd_13 : (yX9_tell : MethodName).cls ≠ "java/lang/invoke/MethodHandle" ∧ (yX9_tell : MethodName).cls ≠ "java/lang/invoke/VarHandle" ∧ (parseMethodDescriptor (yX9_tell : MethodName).desc).map (fun d => d.parameters.length) = some 2 := by decide +kernel
theorem wd_14 : (yX9_arrows : MethodName).cls ≠ "java/lang/invoke/MethodHandle" ∧ (yX9_arrows : MethodName).cls ≠ "java/lang/invoke/VarHandle" ∧ (parseMethodDescriptor (yX9_arrows : MethodName).desc).map (fun d => d.parameters.length) = some 3 := by decide +kernel
theorem wd_15 : (yX9_takes : MethodName).cls ≠ "java/lang/invoke/MethodHandle" ∧ (yX9_takes : MethodName).cls ≠ "java/lang/invoke/VarHandle" ∧ (parseMethodDescriptor (yX9_takes : MethodName).desc).map (fun d => d.parameters.length) = some 3 := by decide +kernel
theorem wd_16 : (yX9_after : MethodName).cls ≠ "java/lang/invoke/MethodHandle" ∧ (yX9_after : MethodName).cls ≠ "java/lang/invoke/VarHandle" ∧ (parseMethodDescriptor (yX9_after : MethodName).desc).map (fun d => d.parameters.length) = some 4 := by decide +kernel
theorem wd_17 : (yX9_size : MethodName).cls ≠ "java/lang/invoke/MethodHandle" ∧ (yX9_size : MethodName).cls ≠ "java/lang/invoke/VarHandle" ∧ (parseMethodDescriptor (yX9_size : MethodName).desc).map (fun d => d.parameters.length) = some 2 := by decide +kernel
theorem wd_18 : (yX9_text : MethodName).cls ≠ "java/lang/invoke/MethodHandle" ∧ (yX9_text : MethodName).cls ≠ "java/lang/invoke/VarHandle" ∧ (parseMethodDescriptor (yX9_text : MethodName).desc).map (fun d => d.parameters.length) = some 2 := by decide +kernel
theorem wd_19 : (yX9_kind : MethodName).cls ≠ "java/lang/invoke/MethodHandle" ∧ (yX9_kind : MethodName).cls ≠ "java/lang/invoke/VarHandle" ∧ (parseMethodDescriptor (yX9_kind : MethodName).desc).map (fun d => d.parameters.length) = some 1 := by decide +kernel
theorem wd_20 : (yX9_many : MethodName).cls ≠ "java/lang/invoke/MethodHandle" ∧ (yX9_many : MethodName).cls ≠ "java/lang/invoke/VarHandle" ∧ (parseMethodDescriptor (yX9_many : MethodName).desc).map (fun d => d.parameters.length) = some 3 := by decide +kernel
theorem wd_21 : (yX9_word : MethodName).cls ≠ "java/lang/invoke/MethodHandle" ∧ (yX9_word : MethodName).cls ≠ "java/lang/invoke/VarHandle" ∧ (parseMethodDescriptor (yX9_word : MethodName).desc).map (fun d => d.parameters.length) = some 2 := by decide +kernel
theorem wd_22 : (yX9_isAlike : MethodName).cls ≠ "java/lang/invoke/MethodHandle" ∧ (yX9_isAlike : MethodName).cls ≠ "java/lang/invoke/VarHandle" ∧ (parseMethodDescriptor (yX9_isAlike : MethodName).desc).map (fun d => d.parameters.length) = some 3 := by decide +kernel
theorem wd_23 : (yX9_apart : MethodName).cls ≠ "java/lang/invoke/MethodHandle" ∧ (yX9_apart : MethodName).cls ≠ "java/lang/invoke/VarHandle" ∧ (parseMethodDescriptor (yX9_apart : MethodName).desc).map (fun d => d.parameters.length) = some 2 := by decide +kernel
theorem wd_24 : (yX9_pairs : MethodName).cls ≠ "java/lang/invoke/MethodHandle" ∧ (yX9_pairs : MethodName).cls ≠ "java/lang/invoke/VarHandle" ∧ (parseMethodDescriptor (yX9_pairs : MethodName).desc).map (fun d => d.parameters.length) = some 2 := by decide +kernel
theorem wd_25 : (yX9_together : MethodName).cls ≠ "java/lang/invoke/MethodHandle" ∧ (yX9_together : MethodName).cls ≠ "java/lang/invoke/VarHandle" ∧ (parseMethodDescriptor (yX9_together : MethodName).desc).map (fun d => d.parameters.length) = some 4 := by decide +kernel
theorem wd_26 : (yX9_house : MethodName).cls ≠ "java/lang/invoke/MethodHandle" ∧ (yX9_house : MethodName).cls ≠ "java/lang/invoke/VarHandle" ∧ (parseMethodDescriptor (yX9_house : MethodName).desc).map (fun d => d.parameters.length) = some 1 := by decide +kernel
set_option maxHeartbeats 4000000 in
set_option maxRecDepth 100000 in
theorem c_L_begin {l : Launch} (hst : l.stackTraces = false) {D : va_G} {ad : Nat → Nat} {cI cM cB : ClassId} (q : Nat) (nv : Int64) (sv : Value) (μ : TMem) (sz : Nat) (a1 : Int32) (a2 : Int32) {PW : Int32 → TMem × Int64 × Value → Prop} (hp : wp_X9_begin μ a1 a2 (fun r μ9 => PW (0 : Int32) (μ9, r.toInt64, sv)) (fun E μ9 => (E = "java/lang/IndexOutOfBoundsException" ∧ PW (1 : Int32) (μ9, nv, sv)) ∨ (E = "java/lang/IllegalArgumentException" ∧ PW (2 : Int32) (μ9, nv, sv)))) : LWm l yL_begin (.codeWith yL_begin cL_begin 5 (some .int) [((0 : Nat), (11 : Nat), (14 : Nat), (19 : Nat)), ((0 : Nat), (11 : Nat), (18 : Nat), (21 : Nat))]) 4 2 12 [.ref (ad 0), .int a1, .int a2, .ref q] D ad cI cM cB sz μ q nv sv PW := by
  refine L_met (by decide +kernel) (Nat.le_of_ble_eq_true rfl) ?_
  intro p e s m below meth c Z ls hx hb hml hown ht hN hK hX hJ hC hZ hNC htab hw hO hne hret hl
  have hl : lv_has ls 5 [(0, .ref (ad 0)), (1, .int a1), (2, .int a2), (3, .ref q)] := hl
  refine lv_aload_n hx hb dL_begin_0 rfl (lv_at hl 3 rfl) ?_
  refine lv_aload_n hx hb dL_begin_1 rfl (lv_at hl 0 rfl) ?_
  refine lv_iload_n hx hb dL_begin_2 rfl (lv_at hl 1 rfl) ?_
  refine lv_iload_n hx hb dL_begin_3 rfl (lv_at hl 2 rfl) ?_
  refine L_calli hw hO hne (vx_runV (own := "LeastreaderLaw") (As := [.int a1, .int a2]) (rest := [.ref q]) ⟨hx, hb, hml, hown, ht⟩ (c_X9_begin hst μ s.heap.size a1 a2 hp) (cwV 2 ht (G_V q_593 q_594 q_595 q_46 q_596) rfl rfl rfl ⟨rfl, wd_0⟩ ⟨Nat.le_of_ble_eq_true rfl, Nat.le_of_ble_eq_true rfl⟩) ⟨TBX.blind, (T_recv hK hw (kd_of rfl (by decide)) (ent_8 rfl) cl_8), TBX.pre hK hN hX hw⟩ rfl rfl hl.1 rfl (lv_room (Nat.le_of_ble_eq_true rfl)) dL_begin_4 ⟨Nat.le_of_ble_eq_true rfl, Nat.le_of_ble_eq_true rfl⟩) (fun E ce q9 μ1 H locs hE hw h1 h2 h3 => ?_) (fun r μ1 H locs hr hw => ?_)
  · rcases hE with ⟨rfl, hq⟩ | ⟨rfl, hq⟩
    · refine vx_catch (name := "java/lang/IndexOutOfBoundsException") hown [] _ _ htab (fun _ h => nomatch h) (by decide) (by decide) (ht _ q_591) (XN.use hX.2.2.1 _ (List.mem_of_getElem? (i := 0) rfl)) h1 h2 h3 ?_
      refine lv_astore (lv' := [(4, .ref q9), (0, .ref (ad 0)), (1, .int a1), (2, .int a2), (3, .ref q)]) hx hb dL_begin_14 hl (by decide) rfl (fun ls hl => ?_)
      refine lv_iconst (v := (1 : Int32)) hx hb dL_begin_16 (by decide) ?_
      exact hret H locs ls 17 _ _ _ μ1 nv sv hw hq (show 0 + 2 ≤ 2 by omega) (show 0 + 12 ≤ 12 by omega) dL_begin_17
    · refine vx_catch (name := "java/lang/IllegalArgumentException") hown [_] _ _ htab (List.forall_mem_cons.mpr ⟨Or.inr ⟨by decide, _, ht _ q_591, hNC _ (List.mem_of_getElem? (i := 1) rfl)⟩, fun _ h => nomatch h⟩) (by decide) (by decide) (ht _ q_592) (XN.use hX.2.2.1 _ (List.mem_of_getElem? (i := 10) rfl)) h1 h2 h3 ?_
      refine lv_astore (lv' := [(4, .ref q9), (0, .ref (ad 0)), (1, .int a1), (2, .int a2), (3, .ref q)]) hx hb dL_begin_18 hl (by decide) rfl (fun ls hl => ?_)
      refine lv_iconst (v := (2 : Int32)) hx hb dL_begin_20 (by decide) ?_
      exact hret H locs ls 21 _ _ _ μ1 nv sv hw hq (show 0 + 2 ≤ 2 by omega) (show 0 + 12 ≤ 12 by omega) dL_begin_21
  · refine lv_i2l hx hb dL_begin_7 rfl ?_
    refine L_putn (v := r.toInt64) hx hb ht hown hN hK hw dL_begin_8 (fun H locs hw => ?_)
    refine lv_goto (tgt := 22) hx hb dL_begin_11 (by decide) ?_
    refine lv_iconst (v := (0 : Int32)) hx hb dL_begin_22 (by decide) ?_
    exact hret H locs ls 23 _ _ _ μ1 _ _ hw hr (show 0 + 2 ≤ 2 by omega) (show 0 + 12 ≤ 12 by omega) dL_begin_23

set_option maxHeartbeats 4000000 in
set_option maxRecDepth 100000 in
theorem c_L_arrow {l : Launch} (hst : l.stackTraces = false) {D : va_G} {ad : Nat → Nat} {cI cM cB : ClassId} (q : Nat) (nv : Int64) (sv : Value) (μ : TMem) (sz : Nat) (a1 : Int32) (a2 : Int32) (a3 : Int32) (a4 : Int32) (a5 : Int32) {PW : Int32 → TMem × Int64 × Value → Prop} (hp : wp_X9_arrow μ a1 a2 a3 a4 a5 (fun r μ9 => PW (0 : Int32) (μ9, r.toInt64, sv)) (fun E μ9 => (E = "java/lang/IndexOutOfBoundsException" ∧ PW (1 : Int32) (μ9, nv, sv)) ∨ (E = "java/lang/IllegalArgumentException" ∧ PW (2 : Int32) (μ9, nv, sv)))) : LWm l yL_arrow (.codeWith yL_arrow cL_arrow 8 (some .int) [((0 : Nat), (17 : Nat), (20 : Nat), (19 : Nat)), ((0 : Nat), (17 : Nat), (24 : Nat), (21 : Nat))]) 3 4 24 [.ref (ad 0), .int a1, .int a2, .int a3, .int a4, .int a5, .ref q] D ad cI cM cB sz μ q nv sv PW := by
  refine L_met (by decide +kernel) (Nat.le_of_ble_eq_true rfl) ?_
  intro p e s m below meth c Z ls hx hb hml hown ht hN hK hX hJ hC hZ hNC htab hw hO hne hret hl
  have hl : lv_has ls 8 [(0, .ref (ad 0)), (1, .int a1), (2, .int a2), (3, .int a3), (4, .int a4), (5, .int a5), (6, .ref q)] := hl
  refine lv_aload hx hb dL_arrow_0 (lv_at hl 6 rfl) ?_
  refine lv_aload_n hx hb dL_arrow_2 rfl (lv_at hl 0 rfl) ?_
  refine lv_iload_n hx hb dL_arrow_3 rfl (lv_at hl 1 rfl) ?_
  refine lv_iload_n hx hb dL_arrow_4 rfl (lv_at hl 2 rfl) ?_
  refine lv_iload_n hx hb dL_arrow_5 rfl (lv_at hl 3 rfl) ?_
  refine lv_iload hx hb dL_arrow_6 (lv_at hl 4 rfl) ?_
  refine lv_iload hx hb dL_arrow_8 (lv_at hl 5 rfl) ?_
  refine L_calli hw hO hne (vx_runV (own := "LeastreaderLaw") (As := [.int a1, .int a2, .int a3, .int a4, .int a5]) (rest := [.ref q]) ⟨hx, hb, hml, hown, ht⟩ (c_X9_arrow hst μ s.heap.size a1 a2 a3 a4 a5 hp) (cwV 5 ht (G_V q_631 q_632 q_633 q_46 q_634) rfl rfl rfl ⟨rfl, wd_1⟩ ⟨Nat.le_of_ble_eq_true rfl, Nat.le_of_ble_eq_true rfl⟩) ⟨TBX.blind, (T_recv hK hw (kd_of rfl (by decide)) (ent_8 rfl) cl_8), TBX.pre hK hN hX hw⟩ rfl rfl hl.1 rfl (lv_room (Nat.le_of_ble_eq_true rfl)) dL_arrow_10 ⟨Nat.le_of_ble_eq_true rfl, Nat.le_of_ble_eq_true rfl⟩) (fun E ce q9 μ1 H locs hE hw h1 h2 h3 => ?_) (fun r μ1 H locs hr hw => ?_)
  · rcases hE with ⟨rfl, hq⟩ | ⟨rfl, hq⟩
    · refine vx_catch (name := "java/lang/IndexOutOfBoundsException") hown [] _ _ htab (fun _ h => nomatch h) (by decide) (by decide) (ht _ q_591) (XN.use hX.2.2.1 _ (List.mem_of_getElem? (i := 0) rfl)) h1 h2 h3 ?_
      refine lv_astore (lv' := [(7, .ref q9), (0, .ref (ad 0)), (1, .int a1), (2, .int a2), (3, .int a3), (4, .int a4), (5, .int a5), (6, .ref q)]) hx hb dL_arrow_20 hl (by decide) rfl (fun ls hl => ?_)
      refine lv_iconst (v := (1 : Int32)) hx hb dL_arrow_22 (by decide) ?_
      exact hret H locs ls 23 _ _ _ μ1 nv sv hw hq (show 0 + 4 ≤ 4 by omega) (show 0 + 24 ≤ 24 by omega) dL_arrow_23
    · refine vx_catch (name := "java/lang/IllegalArgumentException") hown [_] _ _ htab (List.forall_mem_cons.mpr ⟨Or.inr ⟨by decide, _, ht _ q_591, hNC _ (List.mem_of_getElem? (i := 1) rfl)⟩, fun _ h => nomatch h⟩) (by decide) (by decide) (ht _ q_592) (XN.use hX.2.2.1 _ (List.mem_of_getElem? (i := 10) rfl)) h1 h2 h3 ?_
      refine lv_astore (lv' := [(7, .ref q9), (0, .ref (ad 0)), (1, .int a1), (2, .int a2), (3, .int a3), (4, .int a4), (5, .int a5), (6, .ref q)]) hx hb dL_arrow_24 hl (by decide) rfl (fun ls hl => ?_)
      refine lv_iconst (v := (2 : Int32)) hx hb dL_arrow_26 (by decide) ?_
      exact hret H locs ls 27 _ _ _ μ1 nv sv hw hq (show 0 + 4 ≤ 4 by omega) (show 0 + 24 ≤ 24 by omega) dL_arrow_27
  · refine lv_i2l hx hb dL_arrow_13 rfl ?_
    refine L_putn (v := r.toInt64) hx hb ht hown hN hK hw dL_arrow_14 (fun H locs hw => ?_)
    refine lv_goto (tgt := 28) hx hb dL_arrow_17 (by decide) ?_
    refine lv_iconst (v := (0 : Int32)) hx hb dL_arrow_28 (by decide) ?_
    exact hret H locs ls 29 _ _ _ μ1 _ _ hw hr (show 0 + 4 ≤ 4 by omega) (show 0 + 24 ≤ 24 by omega) dL_arrow_29

set_option maxHeartbeats 4000000 in
set_option maxRecDepth 100000 in
theorem c_L_lead {l : Launch} (hst : l.stackTraces = false) {D : va_G} {ad : Nat → Nat} {cI cM cB : ClassId} (q : Nat) (nv : Int64) (sv : Value) (μ : TMem) (sz : Nat) (a1 : Int32) (a2 : Int32) (a3 : Int32) (a4 : Int32) {PW : Int32 → TMem × Int64 × Value → Prop} (hp : wp_X9_lead μ a1 a2 a3 a4 (fun r μ9 => PW (0 : Int32) (μ9, r.toInt64, sv)) (fun E μ9 => (E = "java/lang/IndexOutOfBoundsException" ∧ PW (1 : Int32) (μ9, nv, sv)) ∨ (E = "java/lang/IllegalArgumentException" ∧ PW (2 : Int32) (μ9, nv, sv)))) : LWm l yL_lead (.codeWith yL_lead cL_lead 7 (some .int) [((0 : Nat), (15 : Nat), (18 : Nat), (19 : Nat)), ((0 : Nat), (15 : Nat), (22 : Nat), (21 : Nat))]) 3 4 24 [.ref (ad 0), .int a1, .int a2, .int a3, .int a4, .ref q] D ad cI cM cB sz μ q nv sv PW := by
  refine L_met (by decide +kernel) (Nat.le_of_ble_eq_true rfl) ?_
  intro p e s m below meth c Z ls hx hb hml hown ht hN hK hX hJ hC hZ hNC htab hw hO hne hret hl
  have hl : lv_has ls 7 [(0, .ref (ad 0)), (1, .int a1), (2, .int a2), (3, .int a3), (4, .int a4), (5, .ref q)] := hl
  refine lv_aload hx hb dL_lead_0 (lv_at hl 5 rfl) ?_
  refine lv_aload_n hx hb dL_lead_2 rfl (lv_at hl 0 rfl) ?_
  refine lv_iload_n hx hb dL_lead_3 rfl (lv_at hl 1 rfl) ?_
  refine lv_iload_n hx hb dL_lead_4 rfl (lv_at hl 2 rfl) ?_
  refine lv_iload_n hx hb dL_lead_5 rfl (lv_at hl 3 rfl) ?_
  refine lv_iload hx hb dL_lead_6 (lv_at hl 4 rfl) ?_
  refine L_calli hw hO hne (vx_runV (own := "LeastreaderLaw") (As := [.int a1, .int a2, .int a3, .int a4]) (rest := [.ref q]) ⟨hx, hb, hml, hown, ht⟩ (c_X9_lead hst μ s.heap.size a1 a2 a3 a4 hp) (cwV 4 ht (G_V q_647 q_648 q_649 q_46 q_650) rfl rfl rfl ⟨rfl, wd_2⟩ ⟨Nat.le_of_ble_eq_true rfl, Nat.le_of_ble_eq_true rfl⟩) ⟨TBX.blind, (T_recv hK hw (kd_of rfl (by decide)) (ent_8 rfl) cl_8), TBX.pre hK hN hX hw⟩ rfl rfl hl.1 rfl (lv_room (Nat.le_of_ble_eq_true rfl)) dL_lead_8 ⟨Nat.le_of_ble_eq_true rfl, Nat.le_of_ble_eq_true rfl⟩) (fun E ce q9 μ1 H locs hE hw h1 h2 h3 => ?_) (fun r μ1 H locs hr hw => ?_)
  · rcases hE with ⟨rfl, hq⟩ | ⟨rfl, hq⟩
    · refine vx_catch (name := "java/lang/IndexOutOfBoundsException") hown [] _ _ htab (fun _ h => nomatch h) (by decide) (by decide) (ht _ q_591) (XN.use hX.2.2.1 _ (List.mem_of_getElem? (i := 0) rfl)) h1 h2 h3 ?_
      refine lv_astore (lv' := [(6, .ref q9), (0, .ref (ad 0)), (1, .int a1), (2, .int a2), (3, .int a3), (4, .int a4), (5, .ref q)]) hx hb dL_lead_18 hl (by decide) rfl (fun ls hl => ?_)
      refine lv_iconst (v := (1 : Int32)) hx hb dL_lead_20 (by decide) ?_
      exact hret H locs ls 21 _ _ _ μ1 nv sv hw hq (show 0 + 4 ≤ 4 by omega) (show 0 + 24 ≤ 24 by omega) dL_lead_21
    · refine vx_catch (name := "java/lang/IllegalArgumentException") hown [_] _ _ htab (List.forall_mem_cons.mpr ⟨Or.inr ⟨by decide, _, ht _ q_591, hNC _ (List.mem_of_getElem? (i := 1) rfl)⟩, fun _ h => nomatch h⟩) (by decide) (by decide) (ht _ q_592) (XN.use hX.2.2.1 _ (List.mem_of_getElem? (i := 10) rfl)) h1 h2 h3 ?_
      refine lv_astore (lv' := [(6, .ref q9), (0, .ref (ad 0)), (1, .int a1), (2, .int a2), (3, .int a3), (4, .int a4), (5, .ref q)]) hx hb dL_lead_22 hl (by decide) rfl (fun ls hl => ?_)
      refine lv_iconst (v := (2 : Int32)) hx hb dL_lead_24 (by decide) ?_
      exact hret H locs ls 25 _ _ _ μ1 nv sv hw hq (show 0 + 4 ≤ 4 by omega) (show 0 + 24 ≤ 24 by omega) dL_lead_25
  · refine lv_i2l hx hb dL_lead_11 rfl ?_
    refine L_putn (v := r.toInt64) hx hb ht hown hN hK hw dL_lead_12 (fun H locs hw => ?_)
    refine lv_goto (tgt := 26) hx hb dL_lead_15 (by decide) ?_
    refine lv_iconst (v := (0 : Int32)) hx hb dL_lead_26 (by decide) ?_
    exact hret H locs ls 27 _ _ _ μ1 _ _ hw hr (show 0 + 4 ≤ 4 by omega) (show 0 + 24 ≤ 24 by omega) dL_lead_27

set_option maxHeartbeats 4000000 in
set_option maxRecDepth 100000 in
theorem c_L_mark {l : Launch} (hst : l.stackTraces = false) {D : va_G} {ad : Nat → Nat} {cI cM cB : ClassId} (q : Nat) (nv : Int64) (sv : Value) (μ : TMem) (sz : Nat) (a1 : Int32) (a2 : Int32) (a3 : Int32) (a4 : Int32) {PW : Int32 → TMem × Int64 × Value → Prop} (hp : wp_X9_mark μ a1 a2 a3 a4 (fun r μ9 => PW (0 : Int32) (μ9, r.toInt64, sv)) (fun E μ9 => (E = "java/lang/IndexOutOfBoundsException" ∧ PW (1 : Int32) (μ9, nv, sv)))) : LWm l yL_mark (.codeWith yL_mark cL_mark 7 (some .int) [((0 : Nat), (15 : Nat), (18 : Nat), (19 : Nat))]) 2 2 12 [.ref (ad 0), .int a1, .int a2, .int a3, .int a4, .ref q] D ad cI cM cB sz μ q nv sv PW := by
  refine L_met (by decide +kernel) (Nat.le_of_ble_eq_true rfl) ?_
  intro p e s m below meth c Z ls hx hb hml hown ht hN hK hX hJ hC hZ hNC htab hw hO hne hret hl
  have hl : lv_has ls 7 [(0, .ref (ad 0)), (1, .int a1), (2, .int a2), (3, .int a3), (4, .int a4), (5, .ref q)] := hl
  refine lv_aload hx hb dL_mark_0 (lv_at hl 5 rfl) ?_
  refine lv_aload_n hx hb dL_mark_2 rfl (lv_at hl 0 rfl) ?_
  refine lv_iload_n hx hb dL_mark_3 rfl (lv_at hl 1 rfl) ?_
  refine lv_iload_n hx hb dL_mark_4 rfl (lv_at hl 2 rfl) ?_
  refine lv_iload_n hx hb dL_mark_5 rfl (lv_at hl 3 rfl) ?_
  refine lv_iload hx hb dL_mark_6 (lv_at hl 4 rfl) ?_
  refine L_calli hw hO hne (vx_runV (own := "LeastreaderLaw") (As := [.int a1, .int a2, .int a3, .int a4]) (rest := [.ref q]) ⟨hx, hb, hml, hown, ht⟩ (c_X9_mark hst μ s.heap.size a1 a2 a3 a4 hp) (cwV 4 ht (G_V q_655 q_656 q_657 q_46 q_658) rfl rfl rfl ⟨rfl, wd_3⟩ ⟨Nat.le_of_ble_eq_true rfl, Nat.le_of_ble_eq_true rfl⟩) ⟨TBX.blind, (T_recv hK hw (kd_of rfl (by decide)) (ent_8 rfl) cl_8), TBX.pre hK hN hX hw⟩ rfl rfl hl.1 rfl (lv_room (Nat.le_of_ble_eq_true rfl)) dL_mark_8 ⟨Nat.le_of_ble_eq_true rfl, Nat.le_of_ble_eq_true rfl⟩) (fun E ce q9 μ1 H locs hE hw h1 h2 h3 => ?_) (fun r μ1 H locs hr hw => ?_)
  · rcases hE with ⟨rfl, hq⟩
    · refine vx_catch (name := "java/lang/IndexOutOfBoundsException") hown [] _ _ htab (fun _ h => nomatch h) (by decide) (by decide) (ht _ q_591) (XN.use hX.2.2.1 _ (List.mem_of_getElem? (i := 0) rfl)) h1 h2 h3 ?_
      refine lv_astore (lv' := [(6, .ref q9), (0, .ref (ad 0)), (1, .int a1), (2, .int a2), (3, .int a3), (4, .int a4), (5, .ref q)]) hx hb dL_mark_18 hl (by decide) rfl (fun ls hl => ?_)
      refine lv_iconst (v := (1 : Int32)) hx hb dL_mark_20 (by decide) ?_
      exact hret H locs ls 21 _ _ _ μ1 nv sv hw hq (show 0 + 2 ≤ 2 by omega) (show 0 + 12 ≤ 12 by omega) dL_mark_21
  · refine lv_i2l hx hb dL_mark_11 rfl ?_
    refine L_putn (v := r.toInt64) hx hb ht hown hN hK hw dL_mark_12 (fun H locs hw => ?_)
    refine lv_goto (tgt := 22) hx hb dL_mark_15 (by decide) ?_
    refine lv_iconst (v := (0 : Int32)) hx hb dL_mark_22 (by decide) ?_
    exact hret H locs ls 23 _ _ _ μ1 _ _ hw hr (show 0 + 2 ≤ 2 by omega) (show 0 + 12 ≤ 12 by omega) dL_mark_23

set_option maxHeartbeats 4000000 in
set_option maxRecDepth 100000 in
theorem c_L_sow {l : Launch} (hst : l.stackTraces = false) {D : va_G} {ad : Nat → Nat} {cI cM cB : ClassId} (q : Nat) (nv : Int64) (sv : Value) (μ : TMem) (sz : Nat) (a1 : Int32) (a2 : Int32) (a3 : Int32) (a4 : Int32) {PW : Int32 → TMem × Int64 × Value → Prop} (hp : wp_X9_sow μ a1 a2 a3 a4 (fun r μ9 => PW (0 : Int32) (μ9, r.toInt64, sv)) (fun E μ9 => (E = "java/lang/IndexOutOfBoundsException" ∧ PW (1 : Int32) (μ9, nv, sv)) ∨ (E = "java/lang/IllegalArgumentException" ∧ PW (2 : Int32) (μ9, nv, sv)))) : LWm l yL_sow (.codeWith yL_sow cL_sow 7 (some .int) [((0 : Nat), (15 : Nat), (18 : Nat), (19 : Nat)), ((0 : Nat), (15 : Nat), (22 : Nat), (21 : Nat))]) 4 4 24 [.ref (ad 0), .int a1, .int a2, .int a3, .int a4, .ref q] D ad cI cM cB sz μ q nv sv PW := by
  refine L_met (by decide +kernel) (Nat.le_of_ble_eq_true rfl) ?_
  intro p e s m below meth c Z ls hx hb hml hown ht hN hK hX hJ hC hZ hNC htab hw hO hne hret hl
  have hl : lv_has ls 7 [(0, .ref (ad 0)), (1, .int a1), (2, .int a2), (3, .int a3), (4, .int a4), (5, .ref q)] := hl
  refine lv_aload hx hb dL_sow_0 (lv_at hl 5 rfl) ?_
  refine lv_aload_n hx hb dL_sow_2 rfl (lv_at hl 0 rfl) ?_
  refine lv_iload_n hx hb dL_sow_3 rfl (lv_at hl 1 rfl) ?_
  refine lv_iload_n hx hb dL_sow_4 rfl (lv_at hl 2 rfl) ?_
  refine lv_iload_n hx hb dL_sow_5 rfl (lv_at hl 3 rfl) ?_
  refine lv_iload hx hb dL_sow_6 (lv_at hl 4 rfl) ?_
  refine L_calli hw hO hne (vx_runV (own := "LeastreaderLaw") (As := [.int a1, .int a2, .int a3, .int a4]) (rest := [.ref q]) ⟨hx, hb, hml, hown, ht⟩ (c_X9_sow hst μ s.heap.size a1 a2 a3 a4 hp) (cwV 4 ht (G_V q_662 q_663 q_664 q_46 q_665) rfl rfl rfl ⟨rfl, wd_4⟩ ⟨Nat.le_of_ble_eq_true rfl, Nat.le_of_ble_eq_true rfl⟩) ⟨TBX.blind, (T_recv hK hw (kd_of rfl (by decide)) (ent_8 rfl) cl_8), TBX.pre hK hN hX hw⟩ rfl rfl hl.1 rfl (lv_room (Nat.le_of_ble_eq_true rfl)) dL_sow_8 ⟨Nat.le_of_ble_eq_true rfl, Nat.le_of_ble_eq_true rfl⟩) (fun E ce q9 μ1 H locs hE hw h1 h2 h3 => ?_) (fun r μ1 H locs hr hw => ?_)
  · rcases hE with ⟨rfl, hq⟩ | ⟨rfl, hq⟩
    · refine vx_catch (name := "java/lang/IndexOutOfBoundsException") hown [] _ _ htab (fun _ h => nomatch h) (by decide) (by decide) (ht _ q_591) (XN.use hX.2.2.1 _ (List.mem_of_getElem? (i := 0) rfl)) h1 h2 h3 ?_
      refine lv_astore (lv' := [(6, .ref q9), (0, .ref (ad 0)), (1, .int a1), (2, .int a2), (3, .int a3), (4, .int a4), (5, .ref q)]) hx hb dL_sow_18 hl (by decide) rfl (fun ls hl => ?_)
      refine lv_iconst (v := (1 : Int32)) hx hb dL_sow_20 (by decide) ?_
      exact hret H locs ls 21 _ _ _ μ1 nv sv hw hq (show 0 + 4 ≤ 4 by omega) (show 0 + 24 ≤ 24 by omega) dL_sow_21
    · refine vx_catch (name := "java/lang/IllegalArgumentException") hown [_] _ _ htab (List.forall_mem_cons.mpr ⟨Or.inr ⟨by decide, _, ht _ q_591, hNC _ (List.mem_of_getElem? (i := 1) rfl)⟩, fun _ h => nomatch h⟩) (by decide) (by decide) (ht _ q_592) (XN.use hX.2.2.1 _ (List.mem_of_getElem? (i := 10) rfl)) h1 h2 h3 ?_
      refine lv_astore (lv' := [(6, .ref q9), (0, .ref (ad 0)), (1, .int a1), (2, .int a2), (3, .int a3), (4, .int a4), (5, .ref q)]) hx hb dL_sow_22 hl (by decide) rfl (fun ls hl => ?_)
      refine lv_iconst (v := (2 : Int32)) hx hb dL_sow_24 (by decide) ?_
      exact hret H locs ls 25 _ _ _ μ1 nv sv hw hq (show 0 + 4 ≤ 4 by omega) (show 0 + 24 ≤ 24 by omega) dL_sow_25
  · refine lv_i2l hx hb dL_sow_11 rfl ?_
    refine L_putn (v := r.toInt64) hx hb ht hown hN hK hw dL_sow_12 (fun H locs hw => ?_)
    refine lv_goto (tgt := 26) hx hb dL_sow_15 (by decide) ?_
    refine lv_iconst (v := (0 : Int32)) hx hb dL_sow_26 (by decide) ?_
    exact hret H locs ls 27 _ _ _ μ1 _ _ hw hr (show 0 + 4 ≤ 4 by omega) (show 0 + 24 ≤ 24 by omega) dL_sow_27

set_option maxHeartbeats 4000000 in
set_option maxRecDepth 100000 in
theorem c_L_copy {l : Launch} (hst : l.stackTraces = false) {D : va_G} {ad : Nat → Nat} {cI cM cB : ClassId} (q : Nat) (nv : Int64) (sv : Value) (μ : TMem) (sz : Nat) (a1 : Int32) (a2 : Int32) {PW : Int32 → TMem × Int64 × Value → Prop} (hp : wp_X9_copy μ a1 a2 (fun r μ9 => PW (0 : Int32) (μ9, r.toInt64, sv)) (fun E μ9 => (E = "java/lang/IndexOutOfBoundsException" ∧ PW (1 : Int32) (μ9, nv, sv)))) : LWm l yL_copy (.codeWith yL_copy cL_copy 5 (some .int) [((0 : Nat), (11 : Nat), (14 : Nat), (19 : Nat))]) 4 2 12 [.ref (ad 0), .int a1, .int a2, .ref q] D ad cI cM cB sz μ q nv sv PW := by
  refine L_met (by decide +kernel) (Nat.le_of_ble_eq_true rfl) ?_
  intro p e s m below meth c Z ls hx hb hml hown ht hN hK hX hJ hC hZ hNC htab hw hO hne hret hl
  have hl : lv_has ls 5 [(0, .ref (ad 0)), (1, .int a1), (2, .int a2), (3, .ref q)] := hl
  refine lv_aload_n hx hb dL_copy_0 rfl (lv_at hl 3 rfl) ?_
  refine lv_aload_n hx hb dL_copy_1 rfl (lv_at hl 0 rfl) ?_
  refine lv_iload_n hx hb dL_copy_2 rfl (lv_at hl 1 rfl) ?_
  refine lv_iload_n hx hb dL_copy_3 rfl (lv_at hl 2 rfl) ?_
  refine L_calli hw hO hne (vx_runV (own := "LeastreaderLaw") (As := [.int a1, .int a2]) (rest := [.ref q]) ⟨hx, hb, hml, hown, ht⟩ (c_X9_copy hst μ s.heap.size a1 a2 hp) (cwV 2 ht (G_V q_695 q_696 q_697 q_46 q_698) rfl rfl rfl ⟨rfl, wd_5⟩ ⟨Nat.le_of_ble_eq_true rfl, Nat.le_of_ble_eq_true rfl⟩) ⟨TBX.blind, (T_recv hK hw (kd_of rfl (by decide)) (ent_8 rfl) cl_8), TBX.pre hK hN hX hw⟩ rfl rfl hl.1 rfl (lv_room (Nat.le_of_ble_eq_true rfl)) dL_copy_4 ⟨Nat.le_of_ble_eq_true rfl, Nat.le_of_ble_eq_true rfl⟩) (fun E ce q9 μ1 H locs hE hw h1 h2 h3 => ?_) (fun r μ1 H locs hr hw => ?_)
  · rcases hE with ⟨rfl, hq⟩
    · refine vx_catch (name := "java/lang/IndexOutOfBoundsException") hown [] _ _ htab (fun _ h => nomatch h) (by decide) (by decide) (ht _ q_591) (XN.use hX.2.2.1 _ (List.mem_of_getElem? (i := 0) rfl)) h1 h2 h3 ?_
      refine lv_astore (lv' := [(4, .ref q9), (0, .ref (ad 0)), (1, .int a1), (2, .int a2), (3, .ref q)]) hx hb dL_copy_14 hl (by decide) rfl (fun ls hl => ?_)
      refine lv_iconst (v := (1 : Int32)) hx hb dL_copy_16 (by decide) ?_
      exact hret H locs ls 17 _ _ _ μ1 nv sv hw hq (show 0 + 2 ≤ 2 by omega) (show 0 + 12 ≤ 12 by omega) dL_copy_17
  · refine lv_i2l hx hb dL_copy_7 rfl ?_
    refine L_putn (v := r.toInt64) hx hb ht hown hN hK hw dL_copy_8 (fun H locs hw => ?_)
    refine lv_goto (tgt := 18) hx hb dL_copy_11 (by decide) ?_
    refine lv_iconst (v := (0 : Int32)) hx hb dL_copy_18 (by decide) ?_
    exact hret H locs ls 19 _ _ _ μ1 _ _ hw hr (show 0 + 2 ≤ 2 by omega) (show 0 + 12 ≤ 12 by omega) dL_copy_19

set_option maxHeartbeats 4000000 in
set_option maxRecDepth 100000 in
theorem c_L_swap {l : Launch} (hst : l.stackTraces = false) {D : va_G} {ad : Nat → Nat} {cI cM cB : ClassId} (q : Nat) (nv : Int64) (sv : Value) (μ : TMem) (sz : Nat) (a1 : Int32) (a2 : Int32) {PW : Int32 → TMem × Int64 × Value → Prop} (hp : wp_X9_swap μ a1 a2 (fun r μ9 => PW (0 : Int32) (μ9, r.toInt64, sv)) (fun E μ9 => (E = "java/lang/IndexOutOfBoundsException" ∧ PW (1 : Int32) (μ9, nv, sv)))) : LWm l yL_swap (.codeWith yL_swap cL_swap 5 (some .int) [((0 : Nat), (11 : Nat), (14 : Nat), (19 : Nat))]) 4 2 12 [.ref (ad 0), .int a1, .int a2, .ref q] D ad cI cM cB sz μ q nv sv PW := by
  refine L_met (by decide +kernel) (Nat.le_of_ble_eq_true rfl) ?_
  intro p e s m below meth c Z ls hx hb hml hown ht hN hK hX hJ hC hZ hNC htab hw hO hne hret hl
  have hl : lv_has ls 5 [(0, .ref (ad 0)), (1, .int a1), (2, .int a2), (3, .ref q)] := hl
  refine lv_aload_n hx hb dL_swap_0 rfl (lv_at hl 3 rfl) ?_
  refine lv_aload_n hx hb dL_swap_1 rfl (lv_at hl 0 rfl) ?_
  refine lv_iload_n hx hb dL_swap_2 rfl (lv_at hl 1 rfl) ?_
  refine lv_iload_n hx hb dL_swap_3 rfl (lv_at hl 2 rfl) ?_
  refine L_calli hw hO hne (vx_runV (own := "LeastreaderLaw") (As := [.int a1, .int a2]) (rest := [.ref q]) ⟨hx, hb, hml, hown, ht⟩ (c_X9_swap hst μ s.heap.size a1 a2 hp) (cwV 2 ht (G_V q_713 q_714 q_715 q_46 q_716) rfl rfl rfl ⟨rfl, wd_6⟩ ⟨Nat.le_of_ble_eq_true rfl, Nat.le_of_ble_eq_true rfl⟩) ⟨TBX.blind, (T_recv hK hw (kd_of rfl (by decide)) (ent_8 rfl) cl_8), TBX.pre hK hN hX hw⟩ rfl rfl hl.1 rfl (lv_room (Nat.le_of_ble_eq_true rfl)) dL_swap_4 ⟨Nat.le_of_ble_eq_true rfl, Nat.le_of_ble_eq_true rfl⟩) (fun E ce q9 μ1 H locs hE hw h1 h2 h3 => ?_) (fun r μ1 H locs hr hw => ?_)
  · rcases hE with ⟨rfl, hq⟩
    · refine vx_catch (name := "java/lang/IndexOutOfBoundsException") hown [] _ _ htab (fun _ h => nomatch h) (by decide) (by decide) (ht _ q_591) (XN.use hX.2.2.1 _ (List.mem_of_getElem? (i := 0) rfl)) h1 h2 h3 ?_
      refine lv_astore (lv' := [(4, .ref q9), (0, .ref (ad 0)), (1, .int a1), (2, .int a2), (3, .ref q)]) hx hb dL_swap_14 hl (by decide) rfl (fun ls hl => ?_)
      refine lv_iconst (v := (1 : Int32)) hx hb dL_swap_16 (by decide) ?_
      exact hret H locs ls 17 _ _ _ μ1 nv sv hw hq (show 0 + 2 ≤ 2 by omega) (show 0 + 12 ≤ 12 by omega) dL_swap_17
  · refine lv_i2l hx hb dL_swap_7 rfl ?_
    refine L_putn (v := r.toInt64) hx hb ht hown hN hK hw dL_swap_8 (fun H locs hw => ?_)
    refine lv_goto (tgt := 18) hx hb dL_swap_11 (by decide) ?_
    refine lv_iconst (v := (0 : Int32)) hx hb dL_swap_18 (by decide) ?_
    exact hret H locs ls 19 _ _ _ μ1 _ _ hw hr (show 0 + 2 ≤ 2 by omega) (show 0 + 12 ≤ 12 by omega) dL_swap_19

set_option maxHeartbeats 4000000 in
set_option maxRecDepth 100000 in
theorem c_L_turn {l : Launch} (hst : l.stackTraces = false) {D : va_G} {ad : Nat → Nat} {cI cM cB : ClassId} (q : Nat) (nv : Int64) (sv : Value) (μ : TMem) (sz : Nat) (a1 : Int32) {PW : Int32 → TMem × Int64 × Value → Prop} (hp : wp_X9_turn μ a1 (fun r μ9 => PW (0 : Int32) (μ9, r.toInt64, sv)) (fun E μ9 => (E = "java/lang/IndexOutOfBoundsException" ∧ PW (1 : Int32) (μ9, nv, sv)))) : LWm l yL_turn (.codeWith yL_turn cL_turn 4 (some .int) [((0 : Nat), (10 : Nat), (13 : Nat), (19 : Nat))]) 4 1 6 [.ref (ad 0), .int a1, .ref q] D ad cI cM cB sz μ q nv sv PW := by
  refine L_met (by decide +kernel) (Nat.le_of_ble_eq_true rfl) ?_
  intro p e s m below meth c Z ls hx hb hml hown ht hN hK hX hJ hC hZ hNC htab hw hO hne hret hl
  have hl : lv_has ls 4 [(0, .ref (ad 0)), (1, .int a1), (2, .ref q)] := hl
  refine lv_aload_n hx hb dL_turn_0 rfl (lv_at hl 2 rfl) ?_
  refine lv_aload_n hx hb dL_turn_1 rfl (lv_at hl 0 rfl) ?_
  refine lv_iload_n hx hb dL_turn_2 rfl (lv_at hl 1 rfl) ?_
  refine L_calli hw hO hne (vx_runV (own := "LeastreaderLaw") (As := [.int a1]) (rest := [.ref q]) ⟨hx, hb, hml, hown, ht⟩ (c_X9_turn hst μ s.heap.size a1 hp) (cwV 1 ht (G_V q_720 q_721 q_722 q_46 q_723) rfl rfl rfl ⟨rfl, wd_7⟩ ⟨Nat.le_of_ble_eq_true rfl, Nat.le_of_ble_eq_true rfl⟩) ⟨TBX.blind, (T_recv hK hw (kd_of rfl (by decide)) (ent_8 rfl) cl_8), TBX.pre hK hN hX hw⟩ rfl rfl hl.1 rfl (lv_room (Nat.le_of_ble_eq_true rfl)) dL_turn_3 ⟨Nat.le_of_ble_eq_true rfl, Nat.le_of_ble_eq_true rfl⟩) (fun E ce q9 μ1 H locs hE hw h1 h2 h3 => ?_) (fun r μ1 H locs hr hw => ?_)
  · rcases hE with ⟨rfl, hq⟩
    · refine vx_catch (name := "java/lang/IndexOutOfBoundsException") hown [] _ _ htab (fun _ h => nomatch h) (by decide) (by decide) (ht _ q_591) (XN.use hX.2.2.1 _ (List.mem_of_getElem? (i := 0) rfl)) h1 h2 h3 ?_
      refine lv_astore_n (lv' := [(3, .ref q9), (0, .ref (ad 0)), (1, .int a1), (2, .ref q)]) hx hb dL_turn_13 rfl hl (by decide) rfl (fun ls hl => ?_)
      refine lv_iconst (v := (1 : Int32)) hx hb dL_turn_14 (by decide) ?_
      exact hret H locs ls 15 _ _ _ μ1 nv sv hw hq (show 0 + 1 ≤ 1 by omega) (show 0 + 6 ≤ 6 by omega) dL_turn_15
  · refine lv_i2l hx hb dL_turn_6 rfl ?_
    refine L_putn (v := r.toInt64) hx hb ht hown hN hK hw dL_turn_7 (fun H locs hw => ?_)
    refine lv_goto (tgt := 16) hx hb dL_turn_10 (by decide) ?_
    refine lv_iconst (v := (0 : Int32)) hx hb dL_turn_16 (by decide) ?_
    exact hret H locs ls 17 _ _ _ μ1 _ _ hw hr (show 0 + 1 ≤ 1 by omega) (show 0 + 6 ≤ 6 by omega) dL_turn_17

set_option maxHeartbeats 4000000 in
set_option maxRecDepth 100000 in
theorem c_L_other {l : Launch} (hst : l.stackTraces = false) {D : va_G} {ad : Nat → Nat} {cI cM cB : ClassId} (q : Nat) (nv : Int64) (sv : Value) (μ : TMem) (sz : Nat) (a1 : Int32) {PW : Int32 → TMem × Int64 × Value → Prop} (hp : wp_X9_other μ a1 (fun r μ9 => PW (0 : Int32) (μ9, r.toInt64, sv)) (fun E μ9 => (E = "java/lang/IndexOutOfBoundsException" ∧ PW (1 : Int32) (μ9, nv, sv)))) : LWm l yL_other (.codeWith yL_other cL_other 4 (some .int) [((0 : Nat), (10 : Nat), (13 : Nat), (19 : Nat))]) 3 1 6 [.ref (ad 0), .int a1, .ref q] D ad cI cM cB sz μ q nv sv PW := by
  refine L_met (by decide +kernel) (Nat.le_of_ble_eq_true rfl) ?_
  intro p e s m below meth c Z ls hx hb hml hown ht hN hK hX hJ hC hZ hNC htab hw hO hne hret hl
  have hl : lv_has ls 4 [(0, .ref (ad 0)), (1, .int a1), (2, .ref q)] := hl
  refine lv_aload_n hx hb dL_other_0 rfl (lv_at hl 2 rfl) ?_
  refine lv_aload_n hx hb dL_other_1 rfl (lv_at hl 0 rfl) ?_
  refine lv_iload_n hx hb dL_other_2 rfl (lv_at hl 1 rfl) ?_
  refine L_calli hw hO hne (vx_runV (own := "LeastreaderLaw") (As := [.int a1]) (rest := [.ref q]) ⟨hx, hb, hml, hown, ht⟩ (c_X9_other hst μ s.heap.size a1 hp) (cwV 1 ht (G_V q_728 q_729 q_730 q_46 q_731) rfl rfl rfl ⟨rfl, wd_8⟩ ⟨Nat.le_of_ble_eq_true rfl, Nat.le_of_ble_eq_true rfl⟩) ⟨TBX.blind, (T_recv hK hw (kd_of rfl (by decide)) (ent_8 rfl) cl_8), TBX.pre hK hN hX hw⟩ rfl rfl hl.1 rfl (lv_room (Nat.le_of_ble_eq_true rfl)) dL_other_3 ⟨Nat.le_of_ble_eq_true rfl, Nat.le_of_ble_eq_true rfl⟩) (fun E ce q9 μ1 H locs hE hw h1 h2 h3 => ?_) (fun r μ1 H locs hr hw => ?_)
  · rcases hE with ⟨rfl, hq⟩
    · refine vx_catch (name := "java/lang/IndexOutOfBoundsException") hown [] _ _ htab (fun _ h => nomatch h) (by decide) (by decide) (ht _ q_591) (XN.use hX.2.2.1 _ (List.mem_of_getElem? (i := 0) rfl)) h1 h2 h3 ?_
      refine lv_astore_n (lv' := [(3, .ref q9), (0, .ref (ad 0)), (1, .int a1), (2, .ref q)]) hx hb dL_other_13 rfl hl (by decide) rfl (fun ls hl => ?_)
      refine lv_iconst (v := (1 : Int32)) hx hb dL_other_14 (by decide) ?_
      exact hret H locs ls 15 _ _ _ μ1 nv sv hw hq (show 0 + 1 ≤ 1 by omega) (show 0 + 6 ≤ 6 by omega) dL_other_15
  · refine lv_i2l hx hb dL_other_6 rfl ?_
    refine L_putn (v := r.toInt64) hx hb ht hown hN hK hw dL_other_7 (fun H locs hw => ?_)
    refine lv_goto (tgt := 16) hx hb dL_other_10 (by decide) ?_
    refine lv_iconst (v := (0 : Int32)) hx hb dL_other_16 (by decide) ?_
    exact hret H locs ls 17 _ _ _ μ1 _ _ hw hr (show 0 + 1 ≤ 1 by omega) (show 0 + 6 ≤ 6 by omega) dL_other_17

set_option maxHeartbeats 4000000 in
set_option maxRecDepth 100000 in
theorem c_L_grow {l : Launch} (hst : l.stackTraces = false) {D : va_G} {ad : Nat → Nat} {cI cM cB : ClassId} (q : Nat) (nv : Int64) (sv : Value) (μ : TMem) (sz : Nat) (a1 : Int32) {PW : Int32 → TMem × Int64 × Value → Prop} (hp : wp_X9_grow μ a1 (fun r μ9 => PW (0 : Int32) (μ9, r.toInt64, sv)) (fun E μ9 => (E = "java/lang/IndexOutOfBoundsException" ∧ PW (1 : Int32) (μ9, nv, sv)))) : LWm l yL_grow (.codeWith yL_grow cL_grow 4 (some .int) [((0 : Nat), (10 : Nat), (13 : Nat), (19 : Nat))]) 3 1 6 [.ref (ad 0), .int a1, .ref q] D ad cI cM cB sz μ q nv sv PW := by
  refine L_met (by decide +kernel) (Nat.le_of_ble_eq_true rfl) ?_
  intro p e s m below meth c Z ls hx hb hml hown ht hN hK hX hJ hC hZ hNC htab hw hO hne hret hl
  have hl : lv_has ls 4 [(0, .ref (ad 0)), (1, .int a1), (2, .ref q)] := hl
  refine lv_aload_n hx hb dL_grow_0 rfl (lv_at hl 2 rfl) ?_
  refine lv_aload_n hx hb dL_grow_1 rfl (lv_at hl 0 rfl) ?_
  refine lv_iload_n hx hb dL_grow_2 rfl (lv_at hl 1 rfl) ?_
  refine L_calli hw hO hne (vx_runV (own := "LeastreaderLaw") (As := [.int a1]) (rest := [.ref q]) ⟨hx, hb, hml, hown, ht⟩ (c_X9_grow hst μ s.heap.size a1 hp) (cwV 1 ht (G_V q_743 q_744 q_745 q_46 q_746) rfl rfl rfl ⟨rfl, wd_9⟩ ⟨Nat.le_of_ble_eq_true rfl, Nat.le_of_ble_eq_true rfl⟩) ⟨TBX.blind, (T_recv hK hw (kd_of rfl (by decide)) (ent_8 rfl) cl_8), TBX.pre hK hN hX hw⟩ rfl rfl hl.1 rfl (lv_room (Nat.le_of_ble_eq_true rfl)) dL_grow_3 ⟨Nat.le_of_ble_eq_true rfl, Nat.le_of_ble_eq_true rfl⟩) (fun E ce q9 μ1 H locs hE hw h1 h2 h3 => ?_) (fun r μ1 H locs hr hw => ?_)
  · rcases hE with ⟨rfl, hq⟩
    · refine vx_catch (name := "java/lang/IndexOutOfBoundsException") hown [] _ _ htab (fun _ h => nomatch h) (by decide) (by decide) (ht _ q_591) (XN.use hX.2.2.1 _ (List.mem_of_getElem? (i := 0) rfl)) h1 h2 h3 ?_
      refine lv_astore_n (lv' := [(3, .ref q9), (0, .ref (ad 0)), (1, .int a1), (2, .ref q)]) hx hb dL_grow_13 rfl hl (by decide) rfl (fun ls hl => ?_)
      refine lv_iconst (v := (1 : Int32)) hx hb dL_grow_14 (by decide) ?_
      exact hret H locs ls 15 _ _ _ μ1 nv sv hw hq (show 0 + 1 ≤ 1 by omega) (show 0 + 6 ≤ 6 by omega) dL_grow_15
  · refine lv_i2l hx hb dL_grow_6 rfl ?_
    refine L_putn (v := r.toInt64) hx hb ht hown hN hK hw dL_grow_7 (fun H locs hw => ?_)
    refine lv_goto (tgt := 16) hx hb dL_grow_10 (by decide) ?_
    refine lv_iconst (v := (0 : Int32)) hx hb dL_grow_16 (by decide) ?_
    exact hret H locs ls 17 _ _ _ μ1 _ _ hw hr (show 0 + 1 ≤ 1 by omega) (show 0 + 6 ≤ 6 by omega) dL_grow_17

set_option maxHeartbeats 4000000 in
set_option maxRecDepth 100000 in
theorem c_L_drop {l : Launch} (hst : l.stackTraces = false) {D : va_G} {ad : Nat → Nat} {cI cM cB : ClassId} (q : Nat) (nv : Int64) (sv : Value) (μ : TMem) (sz : Nat) (a1 : Int32) (a2 : Int32) {PW : Int32 → TMem × Int64 × Value → Prop} (hp : wp_X9_drop μ a1 a2 (fun r μ9 => PW (0 : Int32) (μ9, r.toInt64, sv)) (fun E μ9 => (E = "java/lang/IndexOutOfBoundsException" ∧ PW (1 : Int32) (μ9, nv, sv)))) : LWm l yL_drop (.codeWith yL_drop cL_drop 5 (some .int) [((0 : Nat), (11 : Nat), (14 : Nat), (19 : Nat))]) 3 2 12 [.ref (ad 0), .int a1, .int a2, .ref q] D ad cI cM cB sz μ q nv sv PW := by
  refine L_met (by decide +kernel) (Nat.le_of_ble_eq_true rfl) ?_
  intro p e s m below meth c Z ls hx hb hml hown ht hN hK hX hJ hC hZ hNC htab hw hO hne hret hl
  have hl : lv_has ls 5 [(0, .ref (ad 0)), (1, .int a1), (2, .int a2), (3, .ref q)] := hl
  refine lv_aload_n hx hb dL_drop_0 rfl (lv_at hl 3 rfl) ?_
  refine lv_aload_n hx hb dL_drop_1 rfl (lv_at hl 0 rfl) ?_
  refine lv_iload_n hx hb dL_drop_2 rfl (lv_at hl 1 rfl) ?_
  refine lv_iload_n hx hb dL_drop_3 rfl (lv_at hl 2 rfl) ?_
  refine L_calli hw hO hne (vx_runV (own := "LeastreaderLaw") (As := [.int a1, .int a2]) (rest := [.ref q]) ⟨hx, hb, hml, hown, ht⟩ (c_X9_drop hst μ s.heap.size a1 a2 hp) (cwV 2 ht (G_V q_751 q_752 q_753 q_46 q_754) rfl rfl rfl ⟨rfl, wd_10⟩ ⟨Nat.le_of_ble_eq_true rfl, Nat.le_of_ble_eq_true rfl⟩) ⟨TBX.blind, (T_recv hK hw (kd_of rfl (by decide)) (ent_8 rfl) cl_8), TBX.pre hK hN hX hw⟩ rfl rfl hl.1 rfl (lv_room (Nat.le_of_ble_eq_true rfl)) dL_drop_4 ⟨Nat.le_of_ble_eq_true rfl, Nat.le_of_ble_eq_true rfl⟩) (fun E ce q9 μ1 H locs hE hw h1 h2 h3 => ?_) (fun r μ1 H locs hr hw => ?_)
  · rcases hE with ⟨rfl, hq⟩
    · refine vx_catch (name := "java/lang/IndexOutOfBoundsException") hown [] _ _ htab (fun _ h => nomatch h) (by decide) (by decide) (ht _ q_591) (XN.use hX.2.2.1 _ (List.mem_of_getElem? (i := 0) rfl)) h1 h2 h3 ?_
      refine lv_astore (lv' := [(4, .ref q9), (0, .ref (ad 0)), (1, .int a1), (2, .int a2), (3, .ref q)]) hx hb dL_drop_14 hl (by decide) rfl (fun ls hl => ?_)
      refine lv_iconst (v := (1 : Int32)) hx hb dL_drop_16 (by decide) ?_
      exact hret H locs ls 17 _ _ _ μ1 nv sv hw hq (show 0 + 2 ≤ 2 by omega) (show 0 + 12 ≤ 12 by omega) dL_drop_17
  · refine lv_i2l hx hb dL_drop_7 rfl ?_
    refine L_putn (v := r.toInt64) hx hb ht hown hN hK hw dL_drop_8 (fun H locs hw => ?_)
    refine lv_goto (tgt := 18) hx hb dL_drop_11 (by decide) ?_
    refine lv_iconst (v := (0 : Int32)) hx hb dL_drop_18 (by decide) ?_
    exact hret H locs ls 19 _ _ _ μ1 _ _ hw hr (show 0 + 2 ≤ 2 by omega) (show 0 + 12 ≤ 12 by omega) dL_drop_19

set_option maxHeartbeats 4000000 in
set_option maxRecDepth 100000 in
theorem c_L_make {l : Launch} (hst : l.stackTraces = false) {D : va_G} {ad : Nat → Nat} {cI cM cB : ClassId} (q : Nat) (nv : Int64) (sv : Value) (μ : TMem) (sz : Nat) (a1 : Int32) (a2 : Int32) (a3 : Int32) {PW : Int32 → TMem × Int64 × Value → Prop} (hp : wp_X9_make μ a1 a2 a3 (fun r μ9 => PW (0 : Int32) (μ9, r.toInt64, sv)) (fun E μ9 => (E = "java/lang/IndexOutOfBoundsException" ∧ PW (1 : Int32) (μ9, nv, sv)))) : LWm l yL_make (.codeWith yL_make cL_make 6 (some .int) [((0 : Nat), (13 : Nat), (16 : Nat), (19 : Nat))]) 6 2 12 [.ref (ad 0), .int a1, .int a2, .int a3, .ref q] D ad cI cM cB sz μ q nv sv PW := by
  refine L_met (by decide +kernel) (Nat.le_of_ble_eq_true rfl) ?_
  intro p e s m below meth c Z ls hx hb hml hown ht hN hK hX hJ hC hZ hNC htab hw hO hne hret hl
  have hl : lv_has ls 6 [(0, .ref (ad 0)), (1, .int a1), (2, .int a2), (3, .int a3), (4, .ref q)] := hl
  refine lv_aload hx hb dL_make_0 (lv_at hl 4 rfl) ?_
  refine lv_aload_n hx hb dL_make_2 rfl (lv_at hl 0 rfl) ?_
  refine lv_iload_n hx hb dL_make_3 rfl (lv_at hl 1 rfl) ?_
  refine lv_iload_n hx hb dL_make_4 rfl (lv_at hl 2 rfl) ?_
  refine lv_iload_n hx hb dL_make_5 rfl (lv_at hl 3 rfl) ?_
  refine L_calli hw hO hne (vx_runV (own := "LeastreaderLaw") (As := [.int a1, .int a2, .int a3]) (rest := [.ref q]) ⟨hx, hb, hml, hown, ht⟩ (c_X9_make hst μ s.heap.size a1 a2 a3 hp) (cwV 3 ht (G_V q_765 q_766 q_767 q_46 q_768) rfl rfl rfl ⟨rfl, wd_11⟩ ⟨Nat.le_of_ble_eq_true rfl, Nat.le_of_ble_eq_true rfl⟩) ⟨TBX.blind, (T_recv hK hw (kd_of rfl (by decide)) (ent_8 rfl) cl_8), TBX.pre hK hN hX hw⟩ rfl rfl hl.1 rfl (lv_room (Nat.le_of_ble_eq_true rfl)) dL_make_6 ⟨Nat.le_of_ble_eq_true rfl, Nat.le_of_ble_eq_true rfl⟩) (fun E ce q9 μ1 H locs hE hw h1 h2 h3 => ?_) (fun r μ1 H locs hr hw => ?_)
  · rcases hE with ⟨rfl, hq⟩
    · refine vx_catch (name := "java/lang/IndexOutOfBoundsException") hown [] _ _ htab (fun _ h => nomatch h) (by decide) (by decide) (ht _ q_591) (XN.use hX.2.2.1 _ (List.mem_of_getElem? (i := 0) rfl)) h1 h2 h3 ?_
      refine lv_astore (lv' := [(5, .ref q9), (0, .ref (ad 0)), (1, .int a1), (2, .int a2), (3, .int a3), (4, .ref q)]) hx hb dL_make_16 hl (by decide) rfl (fun ls hl => ?_)
      refine lv_iconst (v := (1 : Int32)) hx hb dL_make_18 (by decide) ?_
      exact hret H locs ls 19 _ _ _ μ1 nv sv hw hq (show 0 + 2 ≤ 2 by omega) (show 0 + 12 ≤ 12 by omega) dL_make_19
  · refine lv_i2l hx hb dL_make_9 rfl ?_
    refine L_putn (v := r.toInt64) hx hb ht hown hN hK hw dL_make_10 (fun H locs hw => ?_)
    refine lv_goto (tgt := 20) hx hb dL_make_13 (by decide) ?_
    refine lv_iconst (v := (0 : Int32)) hx hb dL_make_20 (by decide) ?_
    exact hret H locs ls 21 _ _ _ μ1 _ _ hw hr (show 0 + 2 ≤ 2 by omega) (show 0 + 12 ≤ 12 by omega) dL_make_21

set_option maxHeartbeats 4000000 in
set_option maxRecDepth 100000 in
theorem c_L_combine {l : Launch} (hst : l.stackTraces = false) {D : va_G} {ad : Nat → Nat} {cI cM cB : ClassId} (q : Nat) (nv : Int64) (sv : Value) (μ : TMem) (sz : Nat) (a1 : Int32) (a2 : Int32) (a3 : Int32) (a4 : Int32) {PW : Int32 → TMem × Int64 × Value → Prop} (hp : wp_X9_combine μ a1 a2 a3 a4 (fun r μ9 => PW (0 : Int32) (μ9, r.toInt64, sv)) (fun E μ9 => (E = "java/lang/IndexOutOfBoundsException" ∧ PW (1 : Int32) (μ9, nv, sv)) ∨ (E = "java/lang/IllegalArgumentException" ∧ PW (2 : Int32) (μ9, nv, sv)))) : LWm l yL_combine (.codeWith yL_combine cL_combine 7 (some .int) [((0 : Nat), (15 : Nat), (18 : Nat), (19 : Nat)), ((0 : Nat), (15 : Nat), (22 : Nat), (21 : Nat))]) 7 4 24 [.ref (ad 0), .int a1, .int a2, .int a3, .int a4, .ref q] D ad cI cM cB sz μ q nv sv PW := by
  refine L_met (by decide +kernel) (Nat.le_of_ble_eq_true rfl) ?_
  intro p e s m below meth c Z ls hx hb hml hown ht hN hK hX hJ hC hZ hNC htab hw hO hne hret hl
  have hl : lv_has ls 7 [(0, .ref (ad 0)), (1, .int a1), (2, .int a2), (3, .int a3), (4, .int a4), (5, .ref q)] := hl
  refine lv_aload hx hb dL_combine_0 (lv_at hl 5 rfl) ?_
  refine lv_aload_n hx hb dL_combine_2 rfl (lv_at hl 0 rfl) ?_
  refine lv_iload_n hx hb dL_combine_3 rfl (lv_at hl 1 rfl) ?_
  refine lv_iload_n hx hb dL_combine_4 rfl (lv_at hl 2 rfl) ?_
  refine lv_iload_n hx hb dL_combine_5 rfl (lv_at hl 3 rfl) ?_
  refine lv_iload hx hb dL_combine_6 (lv_at hl 4 rfl) ?_
  refine L_calli hw hO hne (vx_runV (own := "LeastreaderLaw") (As := [.int a1, .int a2, .int a3, .int a4]) (rest := [.ref q]) ⟨hx, hb, hml, hown, ht⟩ (c_X9_combine hst μ s.heap.size a1 a2 a3 a4 hp) (cwV 4 ht (G_V q_776 q_777 q_778 q_46 q_779) rfl rfl rfl ⟨rfl, wd_12⟩ ⟨Nat.le_of_ble_eq_true rfl, Nat.le_of_ble_eq_true rfl⟩) ⟨TBX.blind, (T_recv hK hw (kd_of rfl (by decide)) (ent_8 rfl) cl_8), TBX.pre hK hN hX hw⟩ rfl rfl hl.1 rfl (lv_room (Nat.le_of_ble_eq_true rfl)) dL_combine_8 ⟨Nat.le_of_ble_eq_true rfl, Nat.le_of_ble_eq_true rfl⟩) (fun E ce q9 μ1 H locs hE hw h1 h2 h3 => ?_) (fun r μ1 H locs hr hw => ?_)
  · rcases hE with ⟨rfl, hq⟩ | ⟨rfl, hq⟩
    · refine vx_catch (name := "java/lang/IndexOutOfBoundsException") hown [] _ _ htab (fun _ h => nomatch h) (by decide) (by decide) (ht _ q_591) (XN.use hX.2.2.1 _ (List.mem_of_getElem? (i := 0) rfl)) h1 h2 h3 ?_
      refine lv_astore (lv' := [(6, .ref q9), (0, .ref (ad 0)), (1, .int a1), (2, .int a2), (3, .int a3), (4, .int a4), (5, .ref q)]) hx hb dL_combine_18 hl (by decide) rfl (fun ls hl => ?_)
      refine lv_iconst (v := (1 : Int32)) hx hb dL_combine_20 (by decide) ?_
      exact hret H locs ls 21 _ _ _ μ1 nv sv hw hq (show 0 + 4 ≤ 4 by omega) (show 0 + 24 ≤ 24 by omega) dL_combine_21
    · refine vx_catch (name := "java/lang/IllegalArgumentException") hown [_] _ _ htab (List.forall_mem_cons.mpr ⟨Or.inr ⟨by decide, _, ht _ q_591, hNC _ (List.mem_of_getElem? (i := 1) rfl)⟩, fun _ h => nomatch h⟩) (by decide) (by decide) (ht _ q_592) (XN.use hX.2.2.1 _ (List.mem_of_getElem? (i := 10) rfl)) h1 h2 h3 ?_
      refine lv_astore (lv' := [(6, .ref q9), (0, .ref (ad 0)), (1, .int a1), (2, .int a2), (3, .int a3), (4, .int a4), (5, .ref q)]) hx hb dL_combine_22 hl (by decide) rfl (fun ls hl => ?_)
      refine lv_iconst (v := (2 : Int32)) hx hb dL_combine_24 (by decide) ?_
      exact hret H locs ls 25 _ _ _ μ1 nv sv hw hq (show 0 + 4 ≤ 4 by omega) (show 0 + 24 ≤ 24 by omega) dL_combine_25
  · refine lv_i2l hx hb dL_combine_11 rfl ?_
    refine L_putn (v := r.toInt64) hx hb ht hown hN hK hw dL_combine_12 (fun H locs hw => ?_)
    refine lv_goto (tgt := 26) hx hb dL_combine_15 (by decide) ?_
    refine lv_iconst (v := (0 : Int32)) hx hb dL_combine_26 (by decide) ?_
    exact hret H locs ls 27 _ _ _ μ1 _ _ hw hr (show 0 + 4 ≤ 4 by omega) (show 0 + 24 ≤ 24 by omega) dL_combine_27

set_option maxHeartbeats 4000000 in
set_option maxRecDepth 100000 in
theorem c_L_tell {l : Launch} (hst : l.stackTraces = false) {D : va_G} {ad : Nat → Nat} {cI cM cB : ClassId} (q : Nat) (nv : Int64) (sv : Value) (μ : TMem) (sz : Nat) (a1 : Int32) (a2 : Int32) {PW : Int32 → TMem × Int64 × Value → Prop} (hp : wp_X9_tell μ a1 a2 (fun r μ9 => PW (0 : Int32) (μ9, r.toInt64, sv)) (fun E μ9 => (E = "java/lang/IndexOutOfBoundsException" ∧ PW (1 : Int32) (μ9, nv, sv)) ∨ (E = "java/lang/IllegalArgumentException" ∧ PW (2 : Int32) (μ9, nv, sv)))) : LWm l yL_tell (.codeWith yL_tell cL_tell 5 (some .int) [((0 : Nat), (11 : Nat), (14 : Nat), (19 : Nat)), ((0 : Nat), (11 : Nat), (18 : Nat), (21 : Nat))]) 3 2 12 [.ref (ad 0), .int a1, .int a2, .ref q] D ad cI cM cB sz μ q nv sv PW := by
  refine L_met (by decide +kernel) (Nat.le_of_ble_eq_true rfl) ?_
  intro p e s m below meth c Z ls hx hb hml hown ht hN hK hX hJ hC hZ hNC htab hw hO hne hret hl
  have hl : lv_has ls 5 [(0, .ref (ad 0)), (1, .int a1), (2, .int a2), (3, .ref q)] := hl
  refine lv_aload_n hx hb dL_tell_0 rfl (lv_at hl 3 rfl) ?_
  refine lv_aload_n hx hb dL_tell_1 rfl (lv_at hl 0 rfl) ?_
  refine lv_iload_n hx hb dL_tell_2 rfl (lv_at hl 1 rfl) ?_
  refine lv_iload_n hx hb dL_tell_3 rfl (lv_at hl 2 rfl) ?_
  refine L_calli hw hO hne (vx_runV (own := "LeastreaderLaw") (As := [.int a1, .int a2]) (rest := [.ref q]) ⟨hx, hb, hml, hown, ht⟩ (c_X9_tell hst μ s.heap.size a1 a2 hp) (cwV 2 ht (G_V q_824 q_825 q_826 q_46 q_827) rfl rfl rfl ⟨rfl, wd_13⟩ ⟨Nat.le_of_ble_eq_true rfl, Nat.le_of_ble_eq_true rfl⟩) ⟨TBX.blind, (T_recv hK hw (kd_of rfl (by decide)) (ent_8 rfl) cl_8), TBX.pre hK hN hX hw⟩ rfl rfl hl.1 rfl (lv_room (Nat.le_of_ble_eq_true rfl)) dL_tell_4 ⟨Nat.le_of_ble_eq_true rfl, Nat.le_of_ble_eq_true rfl⟩) (fun E ce q9 μ1 H locs hE hw h1 h2 h3 => ?_) (fun r μ1 H locs hr hw => ?_)
  · rcases hE with ⟨rfl, hq⟩ | ⟨rfl, hq⟩
    · refine vx_catch (name := "java/lang/IndexOutOfBoundsException") hown [] _ _ htab (fun _ h => nomatch h) (by decide) (by decide) (ht _ q_591) (XN.use hX.2.2.1 _ (List.mem_of_getElem? (i := 0) rfl)) h1 h2 h3 ?_
      refine lv_astore (lv' := [(4, .ref q9), (0, .ref (ad 0)), (1, .int a1), (2, .int a2), (3, .ref q)]) hx hb dL_tell_14 hl (by decide) rfl (fun ls hl => ?_)
      refine lv_iconst (v := (1 : Int32)) hx hb dL_tell_16 (by decide) ?_
      exact hret H locs ls 17 _ _ _ μ1 nv sv hw hq (show 0 + 2 ≤ 2 by omega) (show 0 + 12 ≤ 12 by omega) dL_tell_17
    · refine vx_catch (name := "java/lang/IllegalArgumentException") hown [_] _ _ htab (List.forall_mem_cons.mpr ⟨Or.inr ⟨by decide, _, ht _ q_591, hNC _ (List.mem_of_getElem? (i := 1) rfl)⟩, fun _ h => nomatch h⟩) (by decide) (by decide) (ht _ q_592) (XN.use hX.2.2.1 _ (List.mem_of_getElem? (i := 10) rfl)) h1 h2 h3 ?_
      refine lv_astore (lv' := [(4, .ref q9), (0, .ref (ad 0)), (1, .int a1), (2, .int a2), (3, .ref q)]) hx hb dL_tell_18 hl (by decide) rfl (fun ls hl => ?_)
      refine lv_iconst (v := (2 : Int32)) hx hb dL_tell_20 (by decide) ?_
      exact hret H locs ls 21 _ _ _ μ1 nv sv hw hq (show 0 + 2 ≤ 2 by omega) (show 0 + 12 ≤ 12 by omega) dL_tell_21
  · refine lv_i2l hx hb dL_tell_7 rfl ?_
    refine L_putn (v := r.toInt64) hx hb ht hown hN hK hw dL_tell_8 (fun H locs hw => ?_)
    refine lv_goto (tgt := 22) hx hb dL_tell_11 (by decide) ?_
    refine lv_iconst (v := (0 : Int32)) hx hb dL_tell_22 (by decide) ?_
    exact hret H locs ls 23 _ _ _ μ1 _ _ hw hr (show 0 + 2 ≤ 2 by omega) (show 0 + 12 ≤ 12 by omega) dL_tell_23

set_option maxHeartbeats 4000000 in
set_option maxRecDepth 100000 in
theorem c_L_arrows {l : Launch} (hst : l.stackTraces = false) {D : va_G} {ad : Nat → Nat} {cI cM cB : ClassId} (q : Nat) (nv : Int64) (sv : Value) (μ : TMem) (sz : Nat) (a1 : Int32) (a2 : Int32) (a3 : Int32) {PW : Int32 → TMem × Int64 × Value → Prop} (hp : wp_X9_arrows μ a1 a2 a3 (fun r μ9 => PW (0 : Int32) (μ9, r.toInt64, sv)) (fun E μ9 => (E = "java/lang/IndexOutOfBoundsException" ∧ PW (1 : Int32) (μ9, nv, sv)) ∨ (E = "java/lang/IllegalArgumentException" ∧ PW (2 : Int32) (μ9, nv, sv)))) : LWm l yL_arrows (.codeWith yL_arrows cL_arrows 6 (some .int) [((0 : Nat), (13 : Nat), (16 : Nat), (19 : Nat)), ((0 : Nat), (13 : Nat), (20 : Nat), (21 : Nat))]) 3 3 18 [.ref (ad 0), .int a1, .int a2, .int a3, .ref q] D ad cI cM cB sz μ q nv sv PW := by
  refine L_met (by decide +kernel) (Nat.le_of_ble_eq_true rfl) ?_
  intro p e s m below meth c Z ls hx hb hml hown ht hN hK hX hJ hC hZ hNC htab hw hO hne hret hl
  have hl : lv_has ls 6 [(0, .ref (ad 0)), (1, .int a1), (2, .int a2), (3, .int a3), (4, .ref q)] := hl
  refine lv_aload hx hb dL_arrows_0 (lv_at hl 4 rfl) ?_
  refine lv_aload_n hx hb dL_arrows_2 rfl (lv_at hl 0 rfl) ?_
  refine lv_iload_n hx hb dL_arrows_3 rfl (lv_at hl 1 rfl) ?_
  refine lv_iload_n hx hb dL_arrows_4 rfl (lv_at hl 2 rfl) ?_
  refine lv_iload_n hx hb dL_arrows_5 rfl (lv_at hl 3 rfl) ?_
  refine L_calli hw hO hne (vx_runV (own := "LeastreaderLaw") (As := [.int a1, .int a2, .int a3]) (rest := [.ref q]) ⟨hx, hb, hml, hown, ht⟩ (c_X9_arrows hst μ s.heap.size a1 a2 a3 hp) (cwV 3 ht (G_V q_831 q_832 q_833 q_46 q_834) rfl rfl rfl ⟨rfl, wd_14⟩ ⟨Nat.le_of_ble_eq_true rfl, Nat.le_of_ble_eq_true rfl⟩) ⟨TBX.blind, (T_recv hK hw (kd_of rfl (by decide)) (ent_8 rfl) cl_8), TBX.pre hK hN hX hw⟩ rfl rfl hl.1 rfl (lv_room (Nat.le_of_ble_eq_true rfl)) dL_arrows_6 ⟨Nat.le_of_ble_eq_true rfl, Nat.le_of_ble_eq_true rfl⟩) (fun E ce q9 μ1 H locs hE hw h1 h2 h3 => ?_) (fun r μ1 H locs hr hw => ?_)
  · rcases hE with ⟨rfl, hq⟩ | ⟨rfl, hq⟩
    · refine vx_catch (name := "java/lang/IndexOutOfBoundsException") hown [] _ _ htab (fun _ h => nomatch h) (by decide) (by decide) (ht _ q_591) (XN.use hX.2.2.1 _ (List.mem_of_getElem? (i := 0) rfl)) h1 h2 h3 ?_
      refine lv_astore (lv' := [(5, .ref q9), (0, .ref (ad 0)), (1, .int a1), (2, .int a2), (3, .int a3), (4, .ref q)]) hx hb dL_arrows_16 hl (by decide) rfl (fun ls hl => ?_)
      refine lv_iconst (v := (1 : Int32)) hx hb dL_arrows_18 (by decide) ?_
      exact hret H locs ls 19 _ _ _ μ1 nv sv hw hq (show 0 + 3 ≤ 3 by omega) (show 0 + 18 ≤ 18 by omega) dL_arrows_19
    · refine vx_catch (name := "java/lang/IllegalArgumentException") hown [_] _ _ htab (List.forall_mem_cons.mpr ⟨Or.inr ⟨by decide, _, ht _ q_591, hNC _ (List.mem_of_getElem? (i := 1) rfl)⟩, fun _ h => nomatch h⟩) (by decide) (by decide) (ht _ q_592) (XN.use hX.2.2.1 _ (List.mem_of_getElem? (i := 10) rfl)) h1 h2 h3 ?_
      refine lv_astore (lv' := [(5, .ref q9), (0, .ref (ad 0)), (1, .int a1), (2, .int a2), (3, .int a3), (4, .ref q)]) hx hb dL_arrows_20 hl (by decide) rfl (fun ls hl => ?_)
      refine lv_iconst (v := (2 : Int32)) hx hb dL_arrows_22 (by decide) ?_
      exact hret H locs ls 23 _ _ _ μ1 nv sv hw hq (show 0 + 3 ≤ 3 by omega) (show 0 + 18 ≤ 18 by omega) dL_arrows_23
  · refine lv_i2l hx hb dL_arrows_9 rfl ?_
    refine L_putn (v := r.toInt64) hx hb ht hown hN hK hw dL_arrows_10 (fun H locs hw => ?_)
    refine lv_goto (tgt := 24) hx hb dL_arrows_13 (by decide) ?_
    refine lv_iconst (v := (0 : Int32)) hx hb dL_arrows_24 (by decide) ?_
    exact hret H locs ls 25 _ _ _ μ1 _ _ hw hr (show 0 + 3 ≤ 3 by omega) (show 0 + 18 ≤ 18 by omega) dL_arrows_25

set_option maxHeartbeats 4000000 in
set_option maxRecDepth 100000 in
theorem c_L_takes {l : Launch} (hst : l.stackTraces = false) {D : va_G} {ad : Nat → Nat} {cI cM cB : ClassId} (q : Nat) (nv : Int64) (sv : Value) (μ : TMem) (sz : Nat) (a1 : Int32) (a2 : Int32) (a3 : Int32) {PW : Int32 → TMem × Int64 × Value → Prop} (hp : wp_X9_takes μ a1 a2 a3 (fun r μ9 => PW (0 : Int32) (μ9, (if r = 0 then (0 : Int64) else 1), sv)) (fun E μ9 => (E = "java/lang/IndexOutOfBoundsException" ∧ PW (1 : Int32) (μ9, nv, sv)) ∨ (E = "java/lang/IllegalArgumentException" ∧ PW (2 : Int32) (μ9, nv, sv)))) : LWm l yL_takes (.codeWith yL_takes cL_takes 6 (some .int) [((0 : Nat), (20 : Nat), (23 : Nat), (19 : Nat)), ((0 : Nat), (20 : Nat), (27 : Nat), (21 : Nat))]) 5 3 18 [.ref (ad 0), .int a1, .int a2, .int a3, .ref q] D ad cI cM cB sz μ q nv sv PW := by
  refine L_met (by decide +kernel) (Nat.le_of_ble_eq_true rfl) ?_
  intro p e s m below meth c Z ls hx hb hml hown ht hN hK hX hJ hC hZ hNC htab hw hO hne hret hl
  have hl : lv_has ls 6 [(0, .ref (ad 0)), (1, .int a1), (2, .int a2), (3, .int a3), (4, .ref q)] := hl
  refine lv_aload hx hb dL_takes_0 (lv_at hl 4 rfl) ?_
  refine lv_aload_n hx hb dL_takes_2 rfl (lv_at hl 0 rfl) ?_
  refine lv_iload_n hx hb dL_takes_3 rfl (lv_at hl 1 rfl) ?_
  refine lv_iload_n hx hb dL_takes_4 rfl (lv_at hl 2 rfl) ?_
  refine lv_iload_n hx hb dL_takes_5 rfl (lv_at hl 3 rfl) ?_
  refine L_calli hw hO hne (vx_runV (own := "LeastreaderLaw") (As := [.int a1, .int a2, .int a3]) (rest := [.ref q]) ⟨hx, hb, hml, hown, ht⟩ (c_X9_takes hst μ s.heap.size a1 a2 a3 hp) (cwV 3 ht (G_V q_838 q_839 q_840 q_46 q_841) rfl rfl rfl ⟨rfl, wd_15⟩ ⟨Nat.le_of_ble_eq_true rfl, Nat.le_of_ble_eq_true rfl⟩) ⟨TBX.blind, (T_recv hK hw (kd_of rfl (by decide)) (ent_8 rfl) cl_8), TBX.pre hK hN hX hw⟩ rfl rfl hl.1 rfl (lv_room (Nat.le_of_ble_eq_true rfl)) dL_takes_6 ⟨Nat.le_of_ble_eq_true rfl, Nat.le_of_ble_eq_true rfl⟩) (fun E ce q9 μ1 H locs hE hw h1 h2 h3 => ?_) (fun r μ1 H locs hr hw => ?_)
  · rcases hE with ⟨rfl, hq⟩ | ⟨rfl, hq⟩
    · refine vx_catch (name := "java/lang/IndexOutOfBoundsException") hown [] _ _ htab (fun _ h => nomatch h) (by decide) (by decide) (ht _ q_591) (XN.use hX.2.2.1 _ (List.mem_of_getElem? (i := 0) rfl)) h1 h2 h3 ?_
      refine lv_astore (lv' := [(5, .ref q9), (0, .ref (ad 0)), (1, .int a1), (2, .int a2), (3, .int a3), (4, .ref q)]) hx hb dL_takes_23 hl (by decide) rfl (fun ls hl => ?_)
      refine lv_iconst (v := (1 : Int32)) hx hb dL_takes_25 (by decide) ?_
      exact hret H locs ls 26 _ _ _ μ1 nv sv hw hq (show 0 + 3 ≤ 3 by omega) (show 0 + 18 ≤ 18 by omega) dL_takes_26
    · refine vx_catch (name := "java/lang/IllegalArgumentException") hown [_] _ _ htab (List.forall_mem_cons.mpr ⟨Or.inr ⟨by decide, _, ht _ q_591, hNC _ (List.mem_of_getElem? (i := 1) rfl)⟩, fun _ h => nomatch h⟩) (by decide) (by decide) (ht _ q_592) (XN.use hX.2.2.1 _ (List.mem_of_getElem? (i := 10) rfl)) h1 h2 h3 ?_
      refine lv_astore (lv' := [(5, .ref q9), (0, .ref (ad 0)), (1, .int a1), (2, .int a2), (3, .int a3), (4, .ref q)]) hx hb dL_takes_27 hl (by decide) rfl (fun ls hl => ?_)
      refine lv_iconst (v := (2 : Int32)) hx hb dL_takes_29 (by decide) ?_
      exact hret H locs ls 30 _ _ _ μ1 nv sv hw hq (show 0 + 3 ≤ 3 by omega) (show 0 + 18 ≤ 18 by omega) dL_takes_30
  · refine lv_if_eq (tgt := 16) hx hb dL_takes_9 (by decide) (fun c9 => ?_) (fun c9 => ?_)
    · refine lv_lconst (v := (0 : Int64)) hx hb dL_takes_16 (by decide) ?_
      refine L_putn (v := (0 : Int64)) hx hb ht hown hN hK hw dL_takes_17 (fun H locs hw => ?_)
      refine lv_goto (tgt := 31) hx hb dL_takes_20 (by decide) ?_
      refine lv_iconst (v := (0 : Int32)) hx hb dL_takes_31 (by decide) ?_
      exact hret H locs ls 32 _ _ _ μ1 _ _ hw (by have h : PW (0 : Int32) (μ1, (if r = 0 then (0 : Int64) else 1), sv) := hr; rw [if_pos c9] at h; exact h) (show 0 + 3 ≤ 3 by omega) (show 0 + 18 ≤ 18 by omega) dL_takes_32
    · refine lv_lconst (v := (1 : Int64)) hx hb dL_takes_12 (by decide) ?_
      refine lv_goto (tgt := 17) hx hb dL_takes_13 (by decide) ?_
      refine L_putn (v := (1 : Int64)) hx hb ht hown hN hK hw dL_takes_17 (fun H locs hw => ?_)
      refine lv_goto (tgt := 31) hx hb dL_takes_20 (by decide) ?_
      refine lv_iconst (v := (0 : Int32)) hx hb dL_takes_31 (by decide) ?_
      exact hret H locs ls 32 _ _ _ μ1 _ _ hw (by have h : PW (0 : Int32) (μ1, (if r = 0 then (0 : Int64) else 1), sv) := hr; rw [if_neg c9] at h; exact h) (show 0 + 3 ≤ 3 by omega) (show 0 + 18 ≤ 18 by omega) dL_takes_32

set_option maxHeartbeats 4000000 in
set_option maxRecDepth 100000 in
theorem c_L_after {l : Launch} (hst : l.stackTraces = false) {D : va_G} {ad : Nat → Nat} {cI cM cB : ClassId} (q : Nat) (nv : Int64) (sv : Value) (μ : TMem) (sz : Nat) (a1 : Int32) (a2 : Int32) (a3 : Int32) (a4 : Int32) {PW : Int32 → TMem × Int64 × Value → Prop} (hp : wp_X9_after μ a1 a2 a3 a4 (fun r μ9 => PW (0 : Int32) (μ9, r.toInt64, sv)) (fun E μ9 => (E = "java/lang/IndexOutOfBoundsException" ∧ PW (1 : Int32) (μ9, nv, sv)) ∨ (E = "java/lang/IllegalArgumentException" ∧ PW (2 : Int32) (μ9, nv, sv)) ∨ (E = "java/lang/IllegalStateException" ∧ PW (3 : Int32) (μ9, nv, sv)))) : LWm l yL_after (.codeWith yL_after cL_after 7 (some .int) [((0 : Nat), (15 : Nat), (18 : Nat), (19 : Nat)), ((0 : Nat), (15 : Nat), (22 : Nat), (21 : Nat)), ((0 : Nat), (15 : Nat), (26 : Nat), (78 : Nat))]) 7 5 30 [.ref (ad 0), .int a1, .int a2, .int a3, .int a4, .ref q] D ad cI cM cB sz μ q nv sv PW := by
  refine L_met (by decide +kernel) (Nat.le_of_ble_eq_true rfl) ?_
  intro p e s m below meth c Z ls hx hb hml hown ht hN hK hX hJ hC hZ hNC htab hw hO hne hret hl
  have hl : lv_has ls 7 [(0, .ref (ad 0)), (1, .int a1), (2, .int a2), (3, .int a3), (4, .int a4), (5, .ref q)] := hl
  refine lv_aload hx hb dL_after_0 (lv_at hl 5 rfl) ?_
  refine lv_aload_n hx hb dL_after_2 rfl (lv_at hl 0 rfl) ?_
  refine lv_iload_n hx hb dL_after_3 rfl (lv_at hl 1 rfl) ?_
  refine lv_iload_n hx hb dL_after_4 rfl (lv_at hl 2 rfl) ?_
  refine lv_iload_n hx hb dL_after_5 rfl (lv_at hl 3 rfl) ?_
  refine lv_iload hx hb dL_after_6 (lv_at hl 4 rfl) ?_
  refine L_calli hw hO hne (vx_runV (own := "LeastreaderLaw") (As := [.int a1, .int a2, .int a3, .int a4]) (rest := [.ref q]) ⟨hx, hb, hml, hown, ht⟩ (c_X9_after hst μ s.heap.size a1 a2 a3 a4 hp) (cwV 4 ht (G_V q_849 q_850 q_851 q_46 q_852) rfl rfl rfl ⟨rfl, wd_16⟩ ⟨Nat.le_of_ble_eq_true rfl, Nat.le_of_ble_eq_true rfl⟩) ⟨TBX.blind, (T_recv hK hw (kd_of rfl (by decide)) (ent_8 rfl) cl_8), TBX.pre hK hN hX hw⟩ rfl rfl hl.1 rfl (lv_room (Nat.le_of_ble_eq_true rfl)) dL_after_8 ⟨Nat.le_of_ble_eq_true rfl, Nat.le_of_ble_eq_true rfl⟩) (fun E ce q9 μ1 H locs hE hw h1 h2 h3 => ?_) (fun r μ1 H locs hr hw => ?_)
  · rcases hE with ⟨rfl, hq⟩ | ⟨rfl, hq⟩ | ⟨rfl, hq⟩
    · refine vx_catch (name := "java/lang/IndexOutOfBoundsException") hown [] _ _ htab (fun _ h => nomatch h) (by decide) (by decide) (ht _ q_591) (XN.use hX.2.2.1 _ (List.mem_of_getElem? (i := 0) rfl)) h1 h2 h3 ?_
      refine lv_astore (lv' := [(6, .ref q9), (0, .ref (ad 0)), (1, .int a1), (2, .int a2), (3, .int a3), (4, .int a4), (5, .ref q)]) hx hb dL_after_18 hl (by decide) rfl (fun ls hl => ?_)
      refine lv_iconst (v := (1 : Int32)) hx hb dL_after_20 (by decide) ?_
      exact hret H locs ls 21 _ _ _ μ1 nv sv hw hq (show 0 + 5 ≤ 5 by omega) (show 0 + 30 ≤ 30 by omega) dL_after_21
    · refine vx_catch (name := "java/lang/IllegalArgumentException") hown [_] _ _ htab (List.forall_mem_cons.mpr ⟨Or.inr ⟨by decide, _, ht _ q_591, hNC _ (List.mem_of_getElem? (i := 1) rfl)⟩, fun _ h => nomatch h⟩) (by decide) (by decide) (ht _ q_592) (XN.use hX.2.2.1 _ (List.mem_of_getElem? (i := 10) rfl)) h1 h2 h3 ?_
      refine lv_astore (lv' := [(6, .ref q9), (0, .ref (ad 0)), (1, .int a1), (2, .int a2), (3, .int a3), (4, .int a4), (5, .ref q)]) hx hb dL_after_22 hl (by decide) rfl (fun ls hl => ?_)
      refine lv_iconst (v := (2 : Int32)) hx hb dL_after_24 (by decide) ?_
      exact hret H locs ls 25 _ _ _ μ1 nv sv hw hq (show 0 + 5 ≤ 5 by omega) (show 0 + 30 ≤ 30 by omega) dL_after_25
    · refine vx_catch (name := "java/lang/IllegalStateException") hown [_, _] _ _ htab (List.forall_mem_cons.mpr ⟨Or.inr ⟨by decide, _, ht _ q_591, hNC _ (List.mem_of_getElem? (i := 3) rfl)⟩, List.forall_mem_cons.mpr ⟨Or.inr ⟨by decide, _, ht _ q_592, hNC _ (List.mem_of_getElem? (i := 2) rfl)⟩, fun _ h => nomatch h⟩⟩) (by decide) (by decide) (ht _ q_848) (XN.use hX.2.2.1 _ (List.mem_of_getElem? (i := 11) rfl)) h1 h2 h3 ?_
      refine lv_astore (lv' := [(6, .ref q9), (0, .ref (ad 0)), (1, .int a1), (2, .int a2), (3, .int a3), (4, .int a4), (5, .ref q)]) hx hb dL_after_26 hl (by decide) rfl (fun ls hl => ?_)
      refine lv_iconst (v := (3 : Int32)) hx hb dL_after_28 (by decide) ?_
      exact hret H locs ls 29 _ _ _ μ1 nv sv hw hq (show 0 + 5 ≤ 5 by omega) (show 0 + 30 ≤ 30 by omega) dL_after_29
  · refine lv_i2l hx hb dL_after_11 rfl ?_
    refine L_putn (v := r.toInt64) hx hb ht hown hN hK hw dL_after_12 (fun H locs hw => ?_)
    refine lv_goto (tgt := 30) hx hb dL_after_15 (by decide) ?_
    refine lv_iconst (v := (0 : Int32)) hx hb dL_after_30 (by decide) ?_
    exact hret H locs ls 31 _ _ _ μ1 _ _ hw hr (show 0 + 5 ≤ 5 by omega) (show 0 + 30 ≤ 30 by omega) dL_after_31

set_option maxHeartbeats 4000000 in
set_option maxRecDepth 100000 in
theorem c_L_size {l : Launch} (hst : l.stackTraces = false) {D : va_G} {ad : Nat → Nat} {cI cM cB : ClassId} (q : Nat) (nv : Int64) (sv : Value) (μ : TMem) (sz : Nat) (a1 : Int32) (a2 : Int32) {PW : Int32 → TMem × Int64 × Value → Prop} (hp : wp_X9_size μ a1 a2 (fun r μ9 => PW (0 : Int32) (μ9, r.toInt64, sv)) (fun E μ9 => (E = "java/lang/IndexOutOfBoundsException" ∧ PW (1 : Int32) (μ9, nv, sv)) ∨ (E = "java/lang/IllegalArgumentException" ∧ PW (2 : Int32) (μ9, nv, sv)) ∨ (E = "java/lang/IllegalStateException" ∧ PW (3 : Int32) (μ9, nv, sv)))) : LWm l yL_size (.codeWith yL_size cL_size 5 (some .int) [((0 : Nat), (11 : Nat), (14 : Nat), (19 : Nat)), ((0 : Nat), (11 : Nat), (18 : Nat), (21 : Nat)), ((0 : Nat), (11 : Nat), (22 : Nat), (78 : Nat))]) 7 3 18 [.ref (ad 0), .int a1, .int a2, .ref q] D ad cI cM cB sz μ q nv sv PW := by
  refine L_met (by decide +kernel) (Nat.le_of_ble_eq_true rfl) ?_
  intro p e s m below meth c Z ls hx hb hml hown ht hN hK hX hJ hC hZ hNC htab hw hO hne hret hl
  have hl : lv_has ls 5 [(0, .ref (ad 0)), (1, .int a1), (2, .int a2), (3, .ref q)] := hl
  refine lv_aload_n hx hb dL_size_0 rfl (lv_at hl 3 rfl) ?_
  refine lv_aload_n hx hb dL_size_1 rfl (lv_at hl 0 rfl) ?_
  refine lv_iload_n hx hb dL_size_2 rfl (lv_at hl 1 rfl) ?_
  refine lv_iload_n hx hb dL_size_3 rfl (lv_at hl 2 rfl) ?_
  refine L_calli hw hO hne (vx_runV (own := "LeastreaderLaw") (As := [.int a1, .int a2]) (rest := [.ref q]) ⟨hx, hb, hml, hown, ht⟩ (c_X9_size hst μ s.heap.size a1 a2 hp) (cwV 2 ht (G_V q_877 q_878 q_879 q_46 q_880) rfl rfl rfl ⟨rfl, wd_17⟩ ⟨Nat.le_of_ble_eq_true rfl, Nat.le_of_ble_eq_true rfl⟩) ⟨TBX.blind, (T_recv hK hw (kd_of rfl (by decide)) (ent_8 rfl) cl_8), TBX.pre hK hN hX hw⟩ rfl rfl hl.1 rfl (lv_room (Nat.le_of_ble_eq_true rfl)) dL_size_4 ⟨Nat.le_of_ble_eq_true rfl, Nat.le_of_ble_eq_true rfl⟩) (fun E ce q9 μ1 H locs hE hw h1 h2 h3 => ?_) (fun r μ1 H locs hr hw => ?_)
  · rcases hE with ⟨rfl, hq⟩ | ⟨rfl, hq⟩ | ⟨rfl, hq⟩
    · refine vx_catch (name := "java/lang/IndexOutOfBoundsException") hown [] _ _ htab (fun _ h => nomatch h) (by decide) (by decide) (ht _ q_591) (XN.use hX.2.2.1 _ (List.mem_of_getElem? (i := 0) rfl)) h1 h2 h3 ?_
      refine lv_astore (lv' := [(4, .ref q9), (0, .ref (ad 0)), (1, .int a1), (2, .int a2), (3, .ref q)]) hx hb dL_size_14 hl (by decide) rfl (fun ls hl => ?_)
      refine lv_iconst (v := (1 : Int32)) hx hb dL_size_16 (by decide) ?_
      exact hret H locs ls 17 _ _ _ μ1 nv sv hw hq (show 0 + 3 ≤ 3 by omega) (show 0 + 18 ≤ 18 by omega) dL_size_17
    · refine vx_catch (name := "java/lang/IllegalArgumentException") hown [_] _ _ htab (List.forall_mem_cons.mpr ⟨Or.inr ⟨by decide, _, ht _ q_591, hNC _ (List.mem_of_getElem? (i := 1) rfl)⟩, fun _ h => nomatch h⟩) (by decide) (by decide) (ht _ q_592) (XN.use hX.2.2.1 _ (List.mem_of_getElem? (i := 10) rfl)) h1 h2 h3 ?_
      refine lv_astore (lv' := [(4, .ref q9), (0, .ref (ad 0)), (1, .int a1), (2, .int a2), (3, .ref q)]) hx hb dL_size_18 hl (by decide) rfl (fun ls hl => ?_)
      refine lv_iconst (v := (2 : Int32)) hx hb dL_size_20 (by decide) ?_
      exact hret H locs ls 21 _ _ _ μ1 nv sv hw hq (show 0 + 3 ≤ 3 by omega) (show 0 + 18 ≤ 18 by omega) dL_size_21
    · refine vx_catch (name := "java/lang/IllegalStateException") hown [_, _] _ _ htab (List.forall_mem_cons.mpr ⟨Or.inr ⟨by decide, _, ht _ q_591, hNC _ (List.mem_of_getElem? (i := 3) rfl)⟩, List.forall_mem_cons.mpr ⟨Or.inr ⟨by decide, _, ht _ q_592, hNC _ (List.mem_of_getElem? (i := 2) rfl)⟩, fun _ h => nomatch h⟩⟩) (by decide) (by decide) (ht _ q_848) (XN.use hX.2.2.1 _ (List.mem_of_getElem? (i := 11) rfl)) h1 h2 h3 ?_
      refine lv_astore (lv' := [(4, .ref q9), (0, .ref (ad 0)), (1, .int a1), (2, .int a2), (3, .ref q)]) hx hb dL_size_22 hl (by decide) rfl (fun ls hl => ?_)
      refine lv_iconst (v := (3 : Int32)) hx hb dL_size_24 (by decide) ?_
      exact hret H locs ls 25 _ _ _ μ1 nv sv hw hq (show 0 + 3 ≤ 3 by omega) (show 0 + 18 ≤ 18 by omega) dL_size_25
  · refine lv_i2l hx hb dL_size_7 rfl ?_
    refine L_putn (v := r.toInt64) hx hb ht hown hN hK hw dL_size_8 (fun H locs hw => ?_)
    refine lv_goto (tgt := 26) hx hb dL_size_11 (by decide) ?_
    refine lv_iconst (v := (0 : Int32)) hx hb dL_size_26 (by decide) ?_
    exact hret H locs ls 27 _ _ _ μ1 _ _ hw hr (show 0 + 3 ≤ 3 by omega) (show 0 + 18 ≤ 18 by omega) dL_size_27

set_option maxHeartbeats 4000000 in
set_option maxRecDepth 100000 in
theorem c_L_text {l : Launch} (hst : l.stackTraces = false) {D : va_G} {ad : Nat → Nat} {cI cM cB : ClassId} (q : Nat) (nv : Int64) (sv : Value) (μ : TMem) (sz : Nat) (a1 : Int32) (a2 : Int32) {PW : Int32 → TMem × Int64 × Value → Prop} (hp : wp_X9_text μ a1 a2 (fun μ9 => ∀ r : Option Nat, PW (0 : Int32) (μ9, nv, va_rf r)) (fun E μ9 => (E = "java/lang/IndexOutOfBoundsException" ∧ PW (1 : Int32) (μ9, nv, sv)) ∨ (E = "java/lang/IllegalArgumentException" ∧ PW (2 : Int32) (μ9, nv, sv)) ∨ (E = "java/lang/IllegalStateException" ∧ PW (3 : Int32) (μ9, nv, sv)))) : LWm l yL_text (.codeWith yL_text cL_text 5 (some .int) [((0 : Nat), (10 : Nat), (13 : Nat), (19 : Nat)), ((0 : Nat), (10 : Nat), (17 : Nat), (21 : Nat)), ((0 : Nat), (10 : Nat), (21 : Nat), (78 : Nat))]) 7 503 20018 [.ref (ad 0), .int a1, .int a2, .ref q] D ad cI cM cB sz μ q nv sv PW := by
  refine L_met (by decide +kernel) (Nat.le_of_ble_eq_true rfl) ?_
  intro p e s m below meth c Z ls hx hb hml hown ht hN hK hX hJ hC hZ hNC htab hw hO hne hret hl
  have hl : lv_has ls 5 [(0, .ref (ad 0)), (1, .int a1), (2, .int a2), (3, .ref q)] := hl
  refine lv_aload_n hx hb dL_text_0 rfl (lv_at hl 3 rfl) ?_
  refine lv_aload_n hx hb dL_text_1 rfl (lv_at hl 0 rfl) ?_
  refine lv_iload_n hx hb dL_text_2 rfl (lv_at hl 1 rfl) ?_
  refine lv_iload_n hx hb dL_text_3 rfl (lv_at hl 2 rfl) ?_
  refine L_calls hw hO hne (vx_runV (own := "LeastreaderLaw") (As := [.int a1, .int a2]) (rest := [.ref q]) ⟨hx, hb, hml, hown, ht⟩ (c_X9_text hst μ s.heap.size a1 a2 hp) (cwV 2 ht (G_V q_884 q_885 q_886 q_46 q_887) rfl rfl rfl ⟨rfl, wd_18⟩ ⟨Nat.le_of_ble_eq_true rfl, Nat.le_of_ble_eq_true rfl⟩) ⟨TBXS.blind, (T_recv hK hw (kd_of rfl (by decide)) (ent_8 rfl) cl_8), TBXS.pre hK hN hX hJ hC hZ hw⟩ rfl rfl hl.1 rfl (lv_room (Nat.le_of_ble_eq_true rfl)) dL_text_4 ⟨Nat.le_of_ble_eq_true rfl, Nat.le_of_ble_eq_true rfl⟩) (fun E ce q9 μ1 H locs hE hw h1 h2 h3 => ?_) (fun r μ1 H locs hr hw => ?_)
  · rcases hE with ⟨rfl, hq⟩ | ⟨rfl, hq⟩ | ⟨rfl, hq⟩
    · refine vx_catch (name := "java/lang/IndexOutOfBoundsException") hown [] _ _ htab (fun _ h => nomatch h) (by decide) (by decide) (ht _ q_591) (XN.use hX.2.2.1 _ (List.mem_of_getElem? (i := 0) rfl)) h1 h2 h3 ?_
      refine lv_astore (lv' := [(4, .ref q9), (0, .ref (ad 0)), (1, .int a1), (2, .int a2), (3, .ref q)]) hx hb dL_text_13 hl (by decide) rfl (fun ls hl => ?_)
      refine lv_iconst (v := (1 : Int32)) hx hb dL_text_15 (by decide) ?_
      exact hret H locs ls 16 _ _ _ μ1 nv sv hw hq (show 0 + 503 ≤ 503 by omega) (show 0 + 20018 ≤ 20018 by omega) dL_text_16
    · refine vx_catch (name := "java/lang/IllegalArgumentException") hown [_] _ _ htab (List.forall_mem_cons.mpr ⟨Or.inr ⟨by decide, _, ht _ q_591, hNC _ (List.mem_of_getElem? (i := 1) rfl)⟩, fun _ h => nomatch h⟩) (by decide) (by decide) (ht _ q_592) (XN.use hX.2.2.1 _ (List.mem_of_getElem? (i := 10) rfl)) h1 h2 h3 ?_
      refine lv_astore (lv' := [(4, .ref q9), (0, .ref (ad 0)), (1, .int a1), (2, .int a2), (3, .ref q)]) hx hb dL_text_17 hl (by decide) rfl (fun ls hl => ?_)
      refine lv_iconst (v := (2 : Int32)) hx hb dL_text_19 (by decide) ?_
      exact hret H locs ls 20 _ _ _ μ1 nv sv hw hq (show 0 + 503 ≤ 503 by omega) (show 0 + 20018 ≤ 20018 by omega) dL_text_20
    · refine vx_catch (name := "java/lang/IllegalStateException") hown [_, _] _ _ htab (List.forall_mem_cons.mpr ⟨Or.inr ⟨by decide, _, ht _ q_591, hNC _ (List.mem_of_getElem? (i := 3) rfl)⟩, List.forall_mem_cons.mpr ⟨Or.inr ⟨by decide, _, ht _ q_592, hNC _ (List.mem_of_getElem? (i := 2) rfl)⟩, fun _ h => nomatch h⟩⟩) (by decide) (by decide) (ht _ q_848) (XN.use hX.2.2.1 _ (List.mem_of_getElem? (i := 11) rfl)) h1 h2 h3 ?_
      refine lv_astore (lv' := [(4, .ref q9), (0, .ref (ad 0)), (1, .int a1), (2, .int a2), (3, .ref q)]) hx hb dL_text_21 hl (by decide) rfl (fun ls hl => ?_)
      refine lv_iconst (v := (3 : Int32)) hx hb dL_text_23 (by decide) ?_
      exact hret H locs ls 24 _ _ _ μ1 nv sv hw hq (show 0 + 503 ≤ 503 by omega) (show 0 + 20018 ≤ 20018 by omega) dL_text_24
  · refine L_puts hx hb ht hown hN hK hw dL_text_7 (fun H locs hw => ?_)
    refine lv_goto (tgt := 25) hx hb dL_text_10 (by decide) ?_
    refine lv_iconst (v := (0 : Int32)) hx hb dL_text_25 (by decide) ?_
    exact hret H locs ls 26 _ _ _ μ1 _ _ hw (hr r) (show 0 + 503 ≤ 503 by omega) (show 0 + 20018 ≤ 20018 by omega) dL_text_26

set_option maxHeartbeats 4000000 in
set_option maxRecDepth 100000 in
theorem c_L_kind {l : Launch} (hst : l.stackTraces = false) {D : va_G} {ad : Nat → Nat} {cI cM cB : ClassId} (q : Nat) (nv : Int64) (sv : Value) (μ : TMem) (sz : Nat) (a1 : Int32) {PW : Int32 → TMem × Int64 × Value → Prop} (hp : wp_X9_kind μ a1 (fun r μ9 => PW (0 : Int32) (μ9, r.toInt64, sv)) (fun E μ9 => (E = "java/lang/IndexOutOfBoundsException" ∧ PW (1 : Int32) (μ9, nv, sv)) ∨ (E = "java/lang/IllegalStateException" ∧ PW (2 : Int32) (μ9, nv, sv)))) : LWm l yL_kind (.codeWith yL_kind cL_kind 4 (some .int) [((0 : Nat), (10 : Nat), (13 : Nat), (19 : Nat)), ((0 : Nat), (10 : Nat), (16 : Nat), (78 : Nat))]) 7 2 12 [.ref (ad 0), .int a1, .ref q] D ad cI cM cB sz μ q nv sv PW := by
  refine L_met (by decide +kernel) (Nat.le_of_ble_eq_true rfl) ?_
  intro p e s m below meth c Z ls hx hb hml hown ht hN hK hX hJ hC hZ hNC htab hw hO hne hret hl
  have hl : lv_has ls 4 [(0, .ref (ad 0)), (1, .int a1), (2, .ref q)] := hl
  refine lv_aload_n hx hb dL_kind_0 rfl (lv_at hl 2 rfl) ?_
  refine lv_aload_n hx hb dL_kind_1 rfl (lv_at hl 0 rfl) ?_
  refine lv_iload_n hx hb dL_kind_2 rfl (lv_at hl 1 rfl) ?_
  refine L_calli hw hO hne (vx_runV (own := "LeastreaderLaw") (As := [.int a1]) (rest := [.ref q]) ⟨hx, hb, hml, hown, ht⟩ (c_X9_kind hst μ s.heap.size a1 hp) (cwV 1 ht (G_V q_1161 q_1162 q_1163 q_46 q_1164) rfl rfl rfl ⟨rfl, wd_19⟩ ⟨Nat.le_of_ble_eq_true rfl, Nat.le_of_ble_eq_true rfl⟩) ⟨TBX.blind, (T_recv hK hw (kd_of rfl (by decide)) (ent_8 rfl) cl_8), TBX.pre hK hN hX hw⟩ rfl rfl hl.1 rfl (lv_room (Nat.le_of_ble_eq_true rfl)) dL_kind_3 ⟨Nat.le_of_ble_eq_true rfl, Nat.le_of_ble_eq_true rfl⟩) (fun E ce q9 μ1 H locs hE hw h1 h2 h3 => ?_) (fun r μ1 H locs hr hw => ?_)
  · rcases hE with ⟨rfl, hq⟩ | ⟨rfl, hq⟩
    · refine vx_catch (name := "java/lang/IndexOutOfBoundsException") hown [] _ _ htab (fun _ h => nomatch h) (by decide) (by decide) (ht _ q_591) (XN.use hX.2.2.1 _ (List.mem_of_getElem? (i := 0) rfl)) h1 h2 h3 ?_
      refine lv_astore_n (lv' := [(3, .ref q9), (0, .ref (ad 0)), (1, .int a1), (2, .ref q)]) hx hb dL_kind_13 rfl hl (by decide) rfl (fun ls hl => ?_)
      refine lv_iconst (v := (1 : Int32)) hx hb dL_kind_14 (by decide) ?_
      exact hret H locs ls 15 _ _ _ μ1 nv sv hw hq (show 0 + 2 ≤ 2 by omega) (show 0 + 12 ≤ 12 by omega) dL_kind_15
    · refine vx_catch (name := "java/lang/IllegalStateException") hown [_] _ _ htab (List.forall_mem_cons.mpr ⟨Or.inr ⟨by decide, _, ht _ q_591, hNC _ (List.mem_of_getElem? (i := 3) rfl)⟩, fun _ h => nomatch h⟩) (by decide) (by decide) (ht _ q_848) (XN.use hX.2.2.1 _ (List.mem_of_getElem? (i := 11) rfl)) h1 h2 h3 ?_
      refine lv_astore_n (lv' := [(3, .ref q9), (0, .ref (ad 0)), (1, .int a1), (2, .ref q)]) hx hb dL_kind_16 rfl hl (by decide) rfl (fun ls hl => ?_)
      refine lv_iconst (v := (2 : Int32)) hx hb dL_kind_17 (by decide) ?_
      exact hret H locs ls 18 _ _ _ μ1 nv sv hw hq (show 0 + 2 ≤ 2 by omega) (show 0 + 12 ≤ 12 by omega) dL_kind_18
  · refine lv_i2l hx hb dL_kind_6 rfl ?_
    refine L_putn (v := r.toInt64) hx hb ht hown hN hK hw dL_kind_7 (fun H locs hw => ?_)
    refine lv_goto (tgt := 19) hx hb dL_kind_10 (by decide) ?_
    refine lv_iconst (v := (0 : Int32)) hx hb dL_kind_19 (by decide) ?_
    exact hret H locs ls 20 _ _ _ μ1 _ _ hw hr (show 0 + 2 ≤ 2 by omega) (show 0 + 12 ≤ 12 by omega) dL_kind_20

set_option maxHeartbeats 4000000 in
set_option maxRecDepth 100000 in
theorem c_L_many {l : Launch} (hst : l.stackTraces = false) {D : va_G} {ad : Nat → Nat} {cI cM cB : ClassId} (q : Nat) (nv : Int64) (sv : Value) (μ : TMem) (sz : Nat) (a1 : Int32) (a2 : Int32) (a3 : Int32) {PW : Int32 → TMem × Int64 × Value → Prop} (hp : wp_X9_many μ a1 a2 a3 (fun r μ9 => PW (0 : Int32) (μ9, r.toInt64, sv)) (fun E μ9 => (E = "java/lang/IndexOutOfBoundsException" ∧ PW (1 : Int32) (μ9, nv, sv)) ∨ (E = "java/lang/IllegalArgumentException" ∧ PW (2 : Int32) (μ9, nv, sv)) ∨ (E = "java/lang/IllegalStateException" ∧ PW (3 : Int32) (μ9, nv, sv)))) : LWm l yL_many (.codeWith yL_many cL_many 6 (some .int) [((0 : Nat), (13 : Nat), (16 : Nat), (19 : Nat)), ((0 : Nat), (13 : Nat), (20 : Nat), (21 : Nat)), ((0 : Nat), (13 : Nat), (24 : Nat), (78 : Nat))]) 7 4 24 [.ref (ad 0), .int a1, .int a2, .int a3, .ref q] D ad cI cM cB sz μ q nv sv PW := by
  refine L_met (by decide +kernel) (Nat.le_of_ble_eq_true rfl) ?_
  intro p e s m below meth c Z ls hx hb hml hown ht hN hK hX hJ hC hZ hNC htab hw hO hne hret hl
  have hl : lv_has ls 6 [(0, .ref (ad 0)), (1, .int a1), (2, .int a2), (3, .int a3), (4, .ref q)] := hl
  refine lv_aload hx hb dL_many_0 (lv_at hl 4 rfl) ?_
  refine lv_aload_n hx hb dL_many_2 rfl (lv_at hl 0 rfl) ?_
  refine lv_iload_n hx hb dL_many_3 rfl (lv_at hl 1 rfl) ?_
  refine lv_iload_n hx hb dL_many_4 rfl (lv_at hl 2 rfl) ?_
  refine lv_iload_n hx hb dL_many_5 rfl (lv_at hl 3 rfl) ?_
  refine L_calli hw hO hne (vx_runV (own := "LeastreaderLaw") (As := [.int a1, .int a2, .int a3]) (rest := [.ref q]) ⟨hx, hb, hml, hown, ht⟩ (c_X9_many hst μ s.heap.size a1 a2 a3 hp) (cwV 3 ht (G_V q_1176 q_1177 q_1178 q_46 q_1179) rfl rfl rfl ⟨rfl, wd_20⟩ ⟨Nat.le_of_ble_eq_true rfl, Nat.le_of_ble_eq_true rfl⟩) ⟨TBX.blind, (T_recv hK hw (kd_of rfl (by decide)) (ent_8 rfl) cl_8), TBX.pre hK hN hX hw⟩ rfl rfl hl.1 rfl (lv_room (Nat.le_of_ble_eq_true rfl)) dL_many_6 ⟨Nat.le_of_ble_eq_true rfl, Nat.le_of_ble_eq_true rfl⟩) (fun E ce q9 μ1 H locs hE hw h1 h2 h3 => ?_) (fun r μ1 H locs hr hw => ?_)
  · rcases hE with ⟨rfl, hq⟩ | ⟨rfl, hq⟩ | ⟨rfl, hq⟩
    · refine vx_catch (name := "java/lang/IndexOutOfBoundsException") hown [] _ _ htab (fun _ h => nomatch h) (by decide) (by decide) (ht _ q_591) (XN.use hX.2.2.1 _ (List.mem_of_getElem? (i := 0) rfl)) h1 h2 h3 ?_
      refine lv_astore (lv' := [(5, .ref q9), (0, .ref (ad 0)), (1, .int a1), (2, .int a2), (3, .int a3), (4, .ref q)]) hx hb dL_many_16 hl (by decide) rfl (fun ls hl => ?_)
      refine lv_iconst (v := (1 : Int32)) hx hb dL_many_18 (by decide) ?_
      exact hret H locs ls 19 _ _ _ μ1 nv sv hw hq (show 0 + 4 ≤ 4 by omega) (show 0 + 24 ≤ 24 by omega) dL_many_19
    · refine vx_catch (name := "java/lang/IllegalArgumentException") hown [_] _ _ htab (List.forall_mem_cons.mpr ⟨Or.inr ⟨by decide, _, ht _ q_591, hNC _ (List.mem_of_getElem? (i := 1) rfl)⟩, fun _ h => nomatch h⟩) (by decide) (by decide) (ht _ q_592) (XN.use hX.2.2.1 _ (List.mem_of_getElem? (i := 10) rfl)) h1 h2 h3 ?_
      refine lv_astore (lv' := [(5, .ref q9), (0, .ref (ad 0)), (1, .int a1), (2, .int a2), (3, .int a3), (4, .ref q)]) hx hb dL_many_20 hl (by decide) rfl (fun ls hl => ?_)
      refine lv_iconst (v := (2 : Int32)) hx hb dL_many_22 (by decide) ?_
      exact hret H locs ls 23 _ _ _ μ1 nv sv hw hq (show 0 + 4 ≤ 4 by omega) (show 0 + 24 ≤ 24 by omega) dL_many_23
    · refine vx_catch (name := "java/lang/IllegalStateException") hown [_, _] _ _ htab (List.forall_mem_cons.mpr ⟨Or.inr ⟨by decide, _, ht _ q_591, hNC _ (List.mem_of_getElem? (i := 3) rfl)⟩, List.forall_mem_cons.mpr ⟨Or.inr ⟨by decide, _, ht _ q_592, hNC _ (List.mem_of_getElem? (i := 2) rfl)⟩, fun _ h => nomatch h⟩⟩) (by decide) (by decide) (ht _ q_848) (XN.use hX.2.2.1 _ (List.mem_of_getElem? (i := 11) rfl)) h1 h2 h3 ?_
      refine lv_astore (lv' := [(5, .ref q9), (0, .ref (ad 0)), (1, .int a1), (2, .int a2), (3, .int a3), (4, .ref q)]) hx hb dL_many_24 hl (by decide) rfl (fun ls hl => ?_)
      refine lv_iconst (v := (3 : Int32)) hx hb dL_many_26 (by decide) ?_
      exact hret H locs ls 27 _ _ _ μ1 nv sv hw hq (show 0 + 4 ≤ 4 by omega) (show 0 + 24 ≤ 24 by omega) dL_many_27
  · refine lv_i2l hx hb dL_many_9 rfl ?_
    refine L_putn (v := r.toInt64) hx hb ht hown hN hK hw dL_many_10 (fun H locs hw => ?_)
    refine lv_goto (tgt := 28) hx hb dL_many_13 (by decide) ?_
    refine lv_iconst (v := (0 : Int32)) hx hb dL_many_28 (by decide) ?_
    exact hret H locs ls 29 _ _ _ μ1 _ _ hw hr (show 0 + 4 ≤ 4 by omega) (show 0 + 24 ≤ 24 by omega) dL_many_29

set_option maxHeartbeats 4000000 in
set_option maxRecDepth 100000 in
theorem c_L_word {l : Launch} (hst : l.stackTraces = false) {D : va_G} {ad : Nat → Nat} {cI cM cB : ClassId} (q : Nat) (nv : Int64) (sv : Value) (μ : TMem) (sz : Nat) (a1 : Int32) (a2 : Int32) {PW : Int32 → TMem × Int64 × Value → Prop} (hp : wp_X9_word μ a1 a2 (fun μ9 => ∀ r : Option Nat, PW (0 : Int32) (μ9, nv, va_rf r)) (fun E μ9 => (E = "java/lang/IndexOutOfBoundsException" ∧ PW (1 : Int32) (μ9, nv, sv)) ∨ (E = "java/lang/IllegalArgumentException" ∧ PW (2 : Int32) (μ9, nv, sv)) ∨ (E = "java/lang/IllegalStateException" ∧ PW (3 : Int32) (μ9, nv, sv)))) : LWm l yL_word (.codeWith yL_word cL_word 5 (some .int) [((0 : Nat), (10 : Nat), (13 : Nat), (19 : Nat)), ((0 : Nat), (10 : Nat), (17 : Nat), (21 : Nat)), ((0 : Nat), (10 : Nat), (21 : Nat), (78 : Nat))]) 7 504 20019 [.ref (ad 0), .int a1, .int a2, .ref q] D ad cI cM cB sz μ q nv sv PW := by
  refine L_met (by decide +kernel) (Nat.le_of_ble_eq_true rfl) ?_
  intro p e s m below meth c Z ls hx hb hml hown ht hN hK hX hJ hC hZ hNC htab hw hO hne hret hl
  have hl : lv_has ls 5 [(0, .ref (ad 0)), (1, .int a1), (2, .int a2), (3, .ref q)] := hl
  refine lv_aload_n hx hb dL_word_0 rfl (lv_at hl 3 rfl) ?_
  refine lv_aload_n hx hb dL_word_1 rfl (lv_at hl 0 rfl) ?_
  refine lv_iload_n hx hb dL_word_2 rfl (lv_at hl 1 rfl) ?_
  refine lv_iload_n hx hb dL_word_3 rfl (lv_at hl 2 rfl) ?_
  refine L_calls hw hO hne (vx_runV (own := "LeastreaderLaw") (As := [.int a1, .int a2]) (rest := [.ref q]) ⟨hx, hb, hml, hown, ht⟩ (c_X9_word hst μ s.heap.size a1 a2 hp) (cwV 2 ht (G_V q_1206 q_1207 q_1208 q_46 q_1209) rfl rfl rfl ⟨rfl, wd_21⟩ ⟨Nat.le_of_ble_eq_true rfl, Nat.le_of_ble_eq_true rfl⟩) ⟨TBXS.blind, (T_recv hK hw (kd_of rfl (by decide)) (ent_8 rfl) cl_8), TBXS.pre hK hN hX hJ hC hZ hw⟩ rfl rfl hl.1 rfl (lv_room (Nat.le_of_ble_eq_true rfl)) dL_word_4 ⟨Nat.le_of_ble_eq_true rfl, Nat.le_of_ble_eq_true rfl⟩) (fun E ce q9 μ1 H locs hE hw h1 h2 h3 => ?_) (fun r μ1 H locs hr hw => ?_)
  · rcases hE with ⟨rfl, hq⟩ | ⟨rfl, hq⟩ | ⟨rfl, hq⟩
    · refine vx_catch (name := "java/lang/IndexOutOfBoundsException") hown [] _ _ htab (fun _ h => nomatch h) (by decide) (by decide) (ht _ q_591) (XN.use hX.2.2.1 _ (List.mem_of_getElem? (i := 0) rfl)) h1 h2 h3 ?_
      refine lv_astore (lv' := [(4, .ref q9), (0, .ref (ad 0)), (1, .int a1), (2, .int a2), (3, .ref q)]) hx hb dL_word_13 hl (by decide) rfl (fun ls hl => ?_)
      refine lv_iconst (v := (1 : Int32)) hx hb dL_word_15 (by decide) ?_
      exact hret H locs ls 16 _ _ _ μ1 nv sv hw hq (show 0 + 504 ≤ 504 by omega) (show 0 + 20019 ≤ 20019 by omega) dL_word_16
    · refine vx_catch (name := "java/lang/IllegalArgumentException") hown [_] _ _ htab (List.forall_mem_cons.mpr ⟨Or.inr ⟨by decide, _, ht _ q_591, hNC _ (List.mem_of_getElem? (i := 1) rfl)⟩, fun _ h => nomatch h⟩) (by decide) (by decide) (ht _ q_592) (XN.use hX.2.2.1 _ (List.mem_of_getElem? (i := 10) rfl)) h1 h2 h3 ?_
      refine lv_astore (lv' := [(4, .ref q9), (0, .ref (ad 0)), (1, .int a1), (2, .int a2), (3, .ref q)]) hx hb dL_word_17 hl (by decide) rfl (fun ls hl => ?_)
      refine lv_iconst (v := (2 : Int32)) hx hb dL_word_19 (by decide) ?_
      exact hret H locs ls 20 _ _ _ μ1 nv sv hw hq (show 0 + 504 ≤ 504 by omega) (show 0 + 20019 ≤ 20019 by omega) dL_word_20
    · refine vx_catch (name := "java/lang/IllegalStateException") hown [_, _] _ _ htab (List.forall_mem_cons.mpr ⟨Or.inr ⟨by decide, _, ht _ q_591, hNC _ (List.mem_of_getElem? (i := 3) rfl)⟩, List.forall_mem_cons.mpr ⟨Or.inr ⟨by decide, _, ht _ q_592, hNC _ (List.mem_of_getElem? (i := 2) rfl)⟩, fun _ h => nomatch h⟩⟩) (by decide) (by decide) (ht _ q_848) (XN.use hX.2.2.1 _ (List.mem_of_getElem? (i := 11) rfl)) h1 h2 h3 ?_
      refine lv_astore (lv' := [(4, .ref q9), (0, .ref (ad 0)), (1, .int a1), (2, .int a2), (3, .ref q)]) hx hb dL_word_21 hl (by decide) rfl (fun ls hl => ?_)
      refine lv_iconst (v := (3 : Int32)) hx hb dL_word_23 (by decide) ?_
      exact hret H locs ls 24 _ _ _ μ1 nv sv hw hq (show 0 + 504 ≤ 504 by omega) (show 0 + 20019 ≤ 20019 by omega) dL_word_24
  · refine L_puts hx hb ht hown hN hK hw dL_word_7 (fun H locs hw => ?_)
    refine lv_goto (tgt := 25) hx hb dL_word_10 (by decide) ?_
    refine lv_iconst (v := (0 : Int32)) hx hb dL_word_25 (by decide) ?_
    exact hret H locs ls 26 _ _ _ μ1 _ _ hw (hr r) (show 0 + 504 ≤ 504 by omega) (show 0 + 20019 ≤ 20019 by omega) dL_word_26

set_option maxHeartbeats 4000000 in
set_option maxRecDepth 100000 in
theorem c_L_isAlike {l : Launch} (hst : l.stackTraces = false) {D : va_G} {ad : Nat → Nat} {cI cM cB : ClassId} (q : Nat) (nv : Int64) (sv : Value) (μ : TMem) (sz : Nat) (a1 : Int32) (a2 : Int32) (a3 : Int32) {PW : Int32 → TMem × Int64 × Value → Prop} (hp : wp_X9_isAlike μ a1 a2 a3 (fun r μ9 => PW (0 : Int32) (μ9, (if r = 0 then (0 : Int64) else 1), sv)) (fun E μ9 => (E = "java/lang/IndexOutOfBoundsException" ∧ PW (1 : Int32) (μ9, nv, sv)) ∨ (E = "java/lang/IllegalArgumentException" ∧ PW (2 : Int32) (μ9, nv, sv)) ∨ (E = "java/lang/IllegalStateException" ∧ PW (3 : Int32) (μ9, nv, sv)))) : LWm l yL_isAlike (.codeWith yL_isAlike cL_isAlike 6 (some .int) [((0 : Nat), (20 : Nat), (23 : Nat), (19 : Nat)), ((0 : Nat), (20 : Nat), (27 : Nat), (21 : Nat)), ((0 : Nat), (20 : Nat), (31 : Nat), (78 : Nat))]) 7 6 36 [.ref (ad 0), .int a1, .int a2, .int a3, .ref q] D ad cI cM cB sz μ q nv sv PW := by
  refine L_met (by decide +kernel) (Nat.le_of_ble_eq_true rfl) ?_
  intro p e s m below meth c Z ls hx hb hml hown ht hN hK hX hJ hC hZ hNC htab hw hO hne hret hl
  have hl : lv_has ls 6 [(0, .ref (ad 0)), (1, .int a1), (2, .int a2), (3, .int a3), (4, .ref q)] := hl
  refine lv_aload hx hb dL_isAlike_0 (lv_at hl 4 rfl) ?_
  refine lv_aload_n hx hb dL_isAlike_2 rfl (lv_at hl 0 rfl) ?_
  refine lv_iload_n hx hb dL_isAlike_3 rfl (lv_at hl 1 rfl) ?_
  refine lv_iload_n hx hb dL_isAlike_4 rfl (lv_at hl 2 rfl) ?_
  refine lv_iload_n hx hb dL_isAlike_5 rfl (lv_at hl 3 rfl) ?_
  refine L_calli hw hO hne (vx_runV (own := "LeastreaderLaw") (As := [.int a1, .int a2, .int a3]) (rest := [.ref q]) ⟨hx, hb, hml, hown, ht⟩ (c_X9_isAlike hst μ s.heap.size a1 a2 a3 hp) (cwV 3 ht (G_V q_1230 q_1231 q_1232 q_46 q_1233) rfl rfl rfl ⟨rfl, wd_22⟩ ⟨Nat.le_of_ble_eq_true rfl, Nat.le_of_ble_eq_true rfl⟩) ⟨TBX.blind, (T_recv hK hw (kd_of rfl (by decide)) (ent_8 rfl) cl_8), TBX.pre hK hN hX hw⟩ rfl rfl hl.1 rfl (lv_room (Nat.le_of_ble_eq_true rfl)) dL_isAlike_6 ⟨Nat.le_of_ble_eq_true rfl, Nat.le_of_ble_eq_true rfl⟩) (fun E ce q9 μ1 H locs hE hw h1 h2 h3 => ?_) (fun r μ1 H locs hr hw => ?_)
  · rcases hE with ⟨rfl, hq⟩ | ⟨rfl, hq⟩ | ⟨rfl, hq⟩
    · refine vx_catch (name := "java/lang/IndexOutOfBoundsException") hown [] _ _ htab (fun _ h => nomatch h) (by decide) (by decide) (ht _ q_591) (XN.use hX.2.2.1 _ (List.mem_of_getElem? (i := 0) rfl)) h1 h2 h3 ?_
      refine lv_astore (lv' := [(5, .ref q9), (0, .ref (ad 0)), (1, .int a1), (2, .int a2), (3, .int a3), (4, .ref q)]) hx hb dL_isAlike_23 hl (by decide) rfl (fun ls hl => ?_)
      refine lv_iconst (v := (1 : Int32)) hx hb dL_isAlike_25 (by decide) ?_
      exact hret H locs ls 26 _ _ _ μ1 nv sv hw hq (show 0 + 6 ≤ 6 by omega) (show 0 + 36 ≤ 36 by omega) dL_isAlike_26
    · refine vx_catch (name := "java/lang/IllegalArgumentException") hown [_] _ _ htab (List.forall_mem_cons.mpr ⟨Or.inr ⟨by decide, _, ht _ q_591, hNC _ (List.mem_of_getElem? (i := 1) rfl)⟩, fun _ h => nomatch h⟩) (by decide) (by decide) (ht _ q_592) (XN.use hX.2.2.1 _ (List.mem_of_getElem? (i := 10) rfl)) h1 h2 h3 ?_
      refine lv_astore (lv' := [(5, .ref q9), (0, .ref (ad 0)), (1, .int a1), (2, .int a2), (3, .int a3), (4, .ref q)]) hx hb dL_isAlike_27 hl (by decide) rfl (fun ls hl => ?_)
      refine lv_iconst (v := (2 : Int32)) hx hb dL_isAlike_29 (by decide) ?_
      exact hret H locs ls 30 _ _ _ μ1 nv sv hw hq (show 0 + 6 ≤ 6 by omega) (show 0 + 36 ≤ 36 by omega) dL_isAlike_30
    · refine vx_catch (name := "java/lang/IllegalStateException") hown [_, _] _ _ htab (List.forall_mem_cons.mpr ⟨Or.inr ⟨by decide, _, ht _ q_591, hNC _ (List.mem_of_getElem? (i := 3) rfl)⟩, List.forall_mem_cons.mpr ⟨Or.inr ⟨by decide, _, ht _ q_592, hNC _ (List.mem_of_getElem? (i := 2) rfl)⟩, fun _ h => nomatch h⟩⟩) (by decide) (by decide) (ht _ q_848) (XN.use hX.2.2.1 _ (List.mem_of_getElem? (i := 11) rfl)) h1 h2 h3 ?_
      refine lv_astore (lv' := [(5, .ref q9), (0, .ref (ad 0)), (1, .int a1), (2, .int a2), (3, .int a3), (4, .ref q)]) hx hb dL_isAlike_31 hl (by decide) rfl (fun ls hl => ?_)
      refine lv_iconst (v := (3 : Int32)) hx hb dL_isAlike_33 (by decide) ?_
      exact hret H locs ls 34 _ _ _ μ1 nv sv hw hq (show 0 + 6 ≤ 6 by omega) (show 0 + 36 ≤ 36 by omega) dL_isAlike_34
  · refine lv_if_eq (tgt := 16) hx hb dL_isAlike_9 (by decide) (fun c9 => ?_) (fun c9 => ?_)
    · refine lv_lconst (v := (0 : Int64)) hx hb dL_isAlike_16 (by decide) ?_
      refine L_putn (v := (0 : Int64)) hx hb ht hown hN hK hw dL_isAlike_17 (fun H locs hw => ?_)
      refine lv_goto (tgt := 35) hx hb dL_isAlike_20 (by decide) ?_
      refine lv_iconst (v := (0 : Int32)) hx hb dL_isAlike_35 (by decide) ?_
      exact hret H locs ls 36 _ _ _ μ1 _ _ hw (by have h : PW (0 : Int32) (μ1, (if r = 0 then (0 : Int64) else 1), sv) := hr; rw [if_pos c9] at h; exact h) (show 0 + 6 ≤ 6 by omega) (show 0 + 36 ≤ 36 by omega) dL_isAlike_36
    · refine lv_lconst (v := (1 : Int64)) hx hb dL_isAlike_12 (by decide) ?_
      refine lv_goto (tgt := 17) hx hb dL_isAlike_13 (by decide) ?_
      refine L_putn (v := (1 : Int64)) hx hb ht hown hN hK hw dL_isAlike_17 (fun H locs hw => ?_)
      refine lv_goto (tgt := 35) hx hb dL_isAlike_20 (by decide) ?_
      refine lv_iconst (v := (0 : Int32)) hx hb dL_isAlike_35 (by decide) ?_
      exact hret H locs ls 36 _ _ _ μ1 _ _ hw (by have h : PW (0 : Int32) (μ1, (if r = 0 then (0 : Int64) else 1), sv) := hr; rw [if_neg c9] at h; exact h) (show 0 + 6 ≤ 6 by omega) (show 0 + 36 ≤ 36 by omega) dL_isAlike_36

set_option maxHeartbeats 4000000 in
set_option maxRecDepth 100000 in
theorem c_L_apart {l : Launch} (hst : l.stackTraces = false) {D : va_G} {ad : Nat → Nat} {cI cM cB : ClassId} (q : Nat) (nv : Int64) (sv : Value) (μ : TMem) (sz : Nat) (a1 : Int32) (a2 : Int32) {PW : Int32 → TMem × Int64 × Value → Prop} (hp : wp_X9_apart μ a1 a2 (fun μ9 => ∀ r : Option Nat, PW (0 : Int32) (μ9, nv, va_rf r)) (fun E μ9 => (E = "java/lang/IndexOutOfBoundsException" ∧ PW (1 : Int32) (μ9, nv, sv)) ∨ (E = "java/lang/IllegalStateException" ∧ PW (2 : Int32) (μ9, nv, sv)))) : LWm l yL_apart (.codeWith yL_apart cL_apart 5 (some .int) [((0 : Nat), (10 : Nat), (13 : Nat), (19 : Nat)), ((0 : Nat), (10 : Nat), (17 : Nat), (78 : Nat))]) 7 503 20018 [.ref (ad 0), .int a1, .int a2, .ref q] D ad cI cM cB sz μ q nv sv PW := by
  refine L_met (by decide +kernel) (Nat.le_of_ble_eq_true rfl) ?_
  intro p e s m below meth c Z ls hx hb hml hown ht hN hK hX hJ hC hZ hNC htab hw hO hne hret hl
  have hl : lv_has ls 5 [(0, .ref (ad 0)), (1, .int a1), (2, .int a2), (3, .ref q)] := hl
  refine lv_aload_n hx hb dL_apart_0 rfl (lv_at hl 3 rfl) ?_
  refine lv_aload_n hx hb dL_apart_1 rfl (lv_at hl 0 rfl) ?_
  refine lv_iload_n hx hb dL_apart_2 rfl (lv_at hl 1 rfl) ?_
  refine lv_iload_n hx hb dL_apart_3 rfl (lv_at hl 2 rfl) ?_
  refine L_calls hw hO hne (vx_runV (own := "LeastreaderLaw") (As := [.int a1, .int a2]) (rest := [.ref q]) ⟨hx, hb, hml, hown, ht⟩ (c_X9_apart hst μ s.heap.size a1 a2 hp) (cwV 2 ht (G_V q_1241 q_1242 q_1243 q_46 q_1244) rfl rfl rfl ⟨rfl, wd_23⟩ ⟨Nat.le_of_ble_eq_true rfl, Nat.le_of_ble_eq_true rfl⟩) ⟨TBXS.blind, (T_recv hK hw (kd_of rfl (by decide)) (ent_8 rfl) cl_8), TBXS.pre hK hN hX hJ hC hZ hw⟩ rfl rfl hl.1 rfl (lv_room (Nat.le_of_ble_eq_true rfl)) dL_apart_4 ⟨Nat.le_of_ble_eq_true rfl, Nat.le_of_ble_eq_true rfl⟩) (fun E ce q9 μ1 H locs hE hw h1 h2 h3 => ?_) (fun r μ1 H locs hr hw => ?_)
  · rcases hE with ⟨rfl, hq⟩ | ⟨rfl, hq⟩
    · refine vx_catch (name := "java/lang/IndexOutOfBoundsException") hown [] _ _ htab (fun _ h => nomatch h) (by decide) (by decide) (ht _ q_591) (XN.use hX.2.2.1 _ (List.mem_of_getElem? (i := 0) rfl)) h1 h2 h3 ?_
      refine lv_astore (lv' := [(4, .ref q9), (0, .ref (ad 0)), (1, .int a1), (2, .int a2), (3, .ref q)]) hx hb dL_apart_13 hl (by decide) rfl (fun ls hl => ?_)
      refine lv_iconst (v := (1 : Int32)) hx hb dL_apart_15 (by decide) ?_
      exact hret H locs ls 16 _ _ _ μ1 nv sv hw hq (show 0 + 503 ≤ 503 by omega) (show 0 + 20018 ≤ 20018 by omega) dL_apart_16
    · refine vx_catch (name := "java/lang/IllegalStateException") hown [_] _ _ htab (List.forall_mem_cons.mpr ⟨Or.inr ⟨by decide, _, ht _ q_591, hNC _ (List.mem_of_getElem? (i := 3) rfl)⟩, fun _ h => nomatch h⟩) (by decide) (by decide) (ht _ q_848) (XN.use hX.2.2.1 _ (List.mem_of_getElem? (i := 11) rfl)) h1 h2 h3 ?_
      refine lv_astore (lv' := [(4, .ref q9), (0, .ref (ad 0)), (1, .int a1), (2, .int a2), (3, .ref q)]) hx hb dL_apart_17 hl (by decide) rfl (fun ls hl => ?_)
      refine lv_iconst (v := (2 : Int32)) hx hb dL_apart_19 (by decide) ?_
      exact hret H locs ls 20 _ _ _ μ1 nv sv hw hq (show 0 + 503 ≤ 503 by omega) (show 0 + 20018 ≤ 20018 by omega) dL_apart_20
  · refine L_puts hx hb ht hown hN hK hw dL_apart_7 (fun H locs hw => ?_)
    refine lv_goto (tgt := 21) hx hb dL_apart_10 (by decide) ?_
    refine lv_iconst (v := (0 : Int32)) hx hb dL_apart_21 (by decide) ?_
    exact hret H locs ls 22 _ _ _ μ1 _ _ hw (hr r) (show 0 + 503 ≤ 503 by omega) (show 0 + 20018 ≤ 20018 by omega) dL_apart_22

set_option maxHeartbeats 4000000 in
set_option maxRecDepth 100000 in
theorem c_L_pairs {l : Launch} (hst : l.stackTraces = false) {D : va_G} {ad : Nat → Nat} {cI cM cB : ClassId} (q : Nat) (nv : Int64) (sv : Value) (μ : TMem) (sz : Nat) (a1 : Int32) (a2 : Int32) {PW : Int32 → TMem × Int64 × Value → Prop} (hp : wp_X9_pairs μ a1 a2 (fun r μ9 => PW (0 : Int32) (μ9, r.toInt64, sv)) (fun E μ9 => (E = "java/lang/IndexOutOfBoundsException" ∧ PW (1 : Int32) (μ9, nv, sv)) ∨ (E = "java/lang/IllegalStateException" ∧ PW (2 : Int32) (μ9, nv, sv)))) : LWm l yL_pairs (.codeWith yL_pairs cL_pairs 5 (some .int) [((0 : Nat), (11 : Nat), (14 : Nat), (19 : Nat)), ((0 : Nat), (11 : Nat), (18 : Nat), (78 : Nat))]) 7 3 18 [.ref (ad 0), .int a1, .int a2, .ref q] D ad cI cM cB sz μ q nv sv PW := by
  refine L_met (by decide +kernel) (Nat.le_of_ble_eq_true rfl) ?_
  intro p e s m below meth c Z ls hx hb hml hown ht hN hK hX hJ hC hZ hNC htab hw hO hne hret hl
  have hl : lv_has ls 5 [(0, .ref (ad 0)), (1, .int a1), (2, .int a2), (3, .ref q)] := hl
  refine lv_aload_n hx hb dL_pairs_0 rfl (lv_at hl 3 rfl) ?_
  refine lv_aload_n hx hb dL_pairs_1 rfl (lv_at hl 0 rfl) ?_
  refine lv_iload_n hx hb dL_pairs_2 rfl (lv_at hl 1 rfl) ?_
  refine lv_iload_n hx hb dL_pairs_3 rfl (lv_at hl 2 rfl) ?_
  refine L_calli hw hO hne (vx_runV (own := "LeastreaderLaw") (As := [.int a1, .int a2]) (rest := [.ref q]) ⟨hx, hb, hml, hown, ht⟩ (c_X9_pairs hst μ s.heap.size a1 a2 hp) (cwV 2 ht (G_V q_1289 q_1290 q_1291 q_46 q_1292) rfl rfl rfl ⟨rfl, wd_24⟩ ⟨Nat.le_of_ble_eq_true rfl, Nat.le_of_ble_eq_true rfl⟩) ⟨TBX.blind, (T_recv hK hw (kd_of rfl (by decide)) (ent_8 rfl) cl_8), TBX.pre hK hN hX hw⟩ rfl rfl hl.1 rfl (lv_room (Nat.le_of_ble_eq_true rfl)) dL_pairs_4 ⟨Nat.le_of_ble_eq_true rfl, Nat.le_of_ble_eq_true rfl⟩) (fun E ce q9 μ1 H locs hE hw h1 h2 h3 => ?_) (fun r μ1 H locs hr hw => ?_)
  · rcases hE with ⟨rfl, hq⟩ | ⟨rfl, hq⟩
    · refine vx_catch (name := "java/lang/IndexOutOfBoundsException") hown [] _ _ htab (fun _ h => nomatch h) (by decide) (by decide) (ht _ q_591) (XN.use hX.2.2.1 _ (List.mem_of_getElem? (i := 0) rfl)) h1 h2 h3 ?_
      refine lv_astore (lv' := [(4, .ref q9), (0, .ref (ad 0)), (1, .int a1), (2, .int a2), (3, .ref q)]) hx hb dL_pairs_14 hl (by decide) rfl (fun ls hl => ?_)
      refine lv_iconst (v := (1 : Int32)) hx hb dL_pairs_16 (by decide) ?_
      exact hret H locs ls 17 _ _ _ μ1 nv sv hw hq (show 0 + 3 ≤ 3 by omega) (show 0 + 18 ≤ 18 by omega) dL_pairs_17
    · refine vx_catch (name := "java/lang/IllegalStateException") hown [_] _ _ htab (List.forall_mem_cons.mpr ⟨Or.inr ⟨by decide, _, ht _ q_591, hNC _ (List.mem_of_getElem? (i := 3) rfl)⟩, fun _ h => nomatch h⟩) (by decide) (by decide) (ht _ q_848) (XN.use hX.2.2.1 _ (List.mem_of_getElem? (i := 11) rfl)) h1 h2 h3 ?_
      refine lv_astore (lv' := [(4, .ref q9), (0, .ref (ad 0)), (1, .int a1), (2, .int a2), (3, .ref q)]) hx hb dL_pairs_18 hl (by decide) rfl (fun ls hl => ?_)
      refine lv_iconst (v := (2 : Int32)) hx hb dL_pairs_20 (by decide) ?_
      exact hret H locs ls 21 _ _ _ μ1 nv sv hw hq (show 0 + 3 ≤ 3 by omega) (show 0 + 18 ≤ 18 by omega) dL_pairs_21
  · refine lv_i2l hx hb dL_pairs_7 rfl ?_
    refine L_putn (v := r.toInt64) hx hb ht hown hN hK hw dL_pairs_8 (fun H locs hw => ?_)
    refine lv_goto (tgt := 22) hx hb dL_pairs_11 (by decide) ?_
    refine lv_iconst (v := (0 : Int32)) hx hb dL_pairs_22 (by decide) ?_
    exact hret H locs ls 23 _ _ _ μ1 _ _ hw hr (show 0 + 3 ≤ 3 by omega) (show 0 + 18 ≤ 18 by omega) dL_pairs_23

set_option maxHeartbeats 4000000 in
set_option maxRecDepth 100000 in
theorem c_L_together {l : Launch} (hst : l.stackTraces = false) {D : va_G} {ad : Nat → Nat} {cI cM cB : ClassId} (q : Nat) (nv : Int64) (sv : Value) (μ : TMem) (sz : Nat) (a1 : Int32) (a2 : Int32) (a3 : Int32) (a4 : Int32) {PW : Int32 → TMem × Int64 × Value → Prop} (hp : wp_X9_together μ a1 a2 a3 a4 (fun r μ9 => PW (0 : Int32) (μ9, r.toInt64, sv)) (fun E μ9 => (E = "java/lang/IndexOutOfBoundsException" ∧ PW (1 : Int32) (μ9, nv, sv)) ∨ (E = "java/lang/IllegalArgumentException" ∧ PW (2 : Int32) (μ9, nv, sv)) ∨ (E = "java/lang/IllegalStateException" ∧ PW (3 : Int32) (μ9, nv, sv)))) : LWm l yL_together (.codeWith yL_together cL_together 7 (some .int) [((0 : Nat), (15 : Nat), (18 : Nat), (19 : Nat)), ((0 : Nat), (15 : Nat), (22 : Nat), (21 : Nat)), ((0 : Nat), (15 : Nat), (26 : Nat), (78 : Nat))]) 7 5 30 [.ref (ad 0), .int a1, .int a2, .int a3, .int a4, .ref q] D ad cI cM cB sz μ q nv sv PW := by
  refine L_met (by decide +kernel) (Nat.le_of_ble_eq_true rfl) ?_
  intro p e s m below meth c Z ls hx hb hml hown ht hN hK hX hJ hC hZ hNC htab hw hO hne hret hl
  have hl : lv_has ls 7 [(0, .ref (ad 0)), (1, .int a1), (2, .int a2), (3, .int a3), (4, .int a4), (5, .ref q)] := hl
  refine lv_aload hx hb dL_together_0 (lv_at hl 5 rfl) ?_
  refine lv_aload_n hx hb dL_together_2 rfl (lv_at hl 0 rfl) ?_
  refine lv_iload_n hx hb dL_together_3 rfl (lv_at hl 1 rfl) ?_
  refine lv_iload_n hx hb dL_together_4 rfl (lv_at hl 2 rfl) ?_
  refine lv_iload_n hx hb dL_together_5 rfl (lv_at hl 3 rfl) ?_
  refine lv_iload hx hb dL_together_6 (lv_at hl 4 rfl) ?_
  refine L_calli hw hO hne (vx_runV (own := "LeastreaderLaw") (As := [.int a1, .int a2, .int a3, .int a4]) (rest := [.ref q]) ⟨hx, hb, hml, hown, ht⟩ (c_X9_together hst μ s.heap.size a1 a2 a3 a4 hp) (cwV 4 ht (G_V q_1296 q_1297 q_1298 q_46 q_1299) rfl rfl rfl ⟨rfl, wd_25⟩ ⟨Nat.le_of_ble_eq_true rfl, Nat.le_of_ble_eq_true rfl⟩) ⟨TBX.blind, (T_recv hK hw (kd_of rfl (by decide)) (ent_8 rfl) cl_8), TBX.pre hK hN hX hw⟩ rfl rfl hl.1 rfl (lv_room (Nat.le_of_ble_eq_true rfl)) dL_together_8 ⟨Nat.le_of_ble_eq_true rfl, Nat.le_of_ble_eq_true rfl⟩) (fun E ce q9 μ1 H locs hE hw h1 h2 h3 => ?_) (fun r μ1 H locs hr hw => ?_)
  · rcases hE with ⟨rfl, hq⟩ | ⟨rfl, hq⟩ | ⟨rfl, hq⟩
    · refine vx_catch (name := "java/lang/IndexOutOfBoundsException") hown [] _ _ htab (fun _ h => nomatch h) (by decide) (by decide) (ht _ q_591) (XN.use hX.2.2.1 _ (List.mem_of_getElem? (i := 0) rfl)) h1 h2 h3 ?_
      refine lv_astore (lv' := [(6, .ref q9), (0, .ref (ad 0)), (1, .int a1), (2, .int a2), (3, .int a3), (4, .int a4), (5, .ref q)]) hx hb dL_together_18 hl (by decide) rfl (fun ls hl => ?_)
      refine lv_iconst (v := (1 : Int32)) hx hb dL_together_20 (by decide) ?_
      exact hret H locs ls 21 _ _ _ μ1 nv sv hw hq (show 0 + 5 ≤ 5 by omega) (show 0 + 30 ≤ 30 by omega) dL_together_21
    · refine vx_catch (name := "java/lang/IllegalArgumentException") hown [_] _ _ htab (List.forall_mem_cons.mpr ⟨Or.inr ⟨by decide, _, ht _ q_591, hNC _ (List.mem_of_getElem? (i := 1) rfl)⟩, fun _ h => nomatch h⟩) (by decide) (by decide) (ht _ q_592) (XN.use hX.2.2.1 _ (List.mem_of_getElem? (i := 10) rfl)) h1 h2 h3 ?_
      refine lv_astore (lv' := [(6, .ref q9), (0, .ref (ad 0)), (1, .int a1), (2, .int a2), (3, .int a3), (4, .int a4), (5, .ref q)]) hx hb dL_together_22 hl (by decide) rfl (fun ls hl => ?_)
      refine lv_iconst (v := (2 : Int32)) hx hb dL_together_24 (by decide) ?_
      exact hret H locs ls 25 _ _ _ μ1 nv sv hw hq (show 0 + 5 ≤ 5 by omega) (show 0 + 30 ≤ 30 by omega) dL_together_25
    · refine vx_catch (name := "java/lang/IllegalStateException") hown [_, _] _ _ htab (List.forall_mem_cons.mpr ⟨Or.inr ⟨by decide, _, ht _ q_591, hNC _ (List.mem_of_getElem? (i := 3) rfl)⟩, List.forall_mem_cons.mpr ⟨Or.inr ⟨by decide, _, ht _ q_592, hNC _ (List.mem_of_getElem? (i := 2) rfl)⟩, fun _ h => nomatch h⟩⟩) (by decide) (by decide) (ht _ q_848) (XN.use hX.2.2.1 _ (List.mem_of_getElem? (i := 11) rfl)) h1 h2 h3 ?_
      refine lv_astore (lv' := [(6, .ref q9), (0, .ref (ad 0)), (1, .int a1), (2, .int a2), (3, .int a3), (4, .int a4), (5, .ref q)]) hx hb dL_together_26 hl (by decide) rfl (fun ls hl => ?_)
      refine lv_iconst (v := (3 : Int32)) hx hb dL_together_28 (by decide) ?_
      exact hret H locs ls 29 _ _ _ μ1 nv sv hw hq (show 0 + 5 ≤ 5 by omega) (show 0 + 30 ≤ 30 by omega) dL_together_29
  · refine lv_i2l hx hb dL_together_11 rfl ?_
    refine L_putn (v := r.toInt64) hx hb ht hown hN hK hw dL_together_12 (fun H locs hw => ?_)
    refine lv_goto (tgt := 30) hx hb dL_together_15 (by decide) ?_
    refine lv_iconst (v := (0 : Int32)) hx hb dL_together_30 (by decide) ?_
    exact hret H locs ls 31 _ _ _ μ1 _ _ hw hr (show 0 + 5 ≤ 5 by omega) (show 0 + 30 ≤ 30 by omega) dL_together_31

set_option maxHeartbeats 4000000 in
set_option maxRecDepth 100000 in
theorem c_L_house {l : Launch} (hst : l.stackTraces = false) {D : va_G} {ad : Nat → Nat} {cI cM cB : ClassId} (q : Nat) (nv : Int64) (sv : Value) (μ : TMem) (sz : Nat) (a1 : Int32) {PW : Int32 → TMem × Int64 × Value → Prop} (hp : wp_X9_house μ a1 (fun r μ9 => PW (0 : Int32) (μ9, r.toInt64, sv)) (fun E μ9 => (E = "java/lang/IllegalArgumentException" ∧ PW (1 : Int32) (μ9, nv, sv)))) : LWm l yL_house (.codeWith yL_house cL_house 4 (some .int) [((0 : Nat), (10 : Nat), (13 : Nat), (21 : Nat))]) 2 1 6 [.ref (ad 0), .int a1, .ref q] D ad cI cM cB sz μ q nv sv PW := by
  refine L_met (by decide +kernel) (Nat.le_of_ble_eq_true rfl) ?_
  intro p e s m below meth c Z ls hx hb hml hown ht hN hK hX hJ hC hZ hNC htab hw hO hne hret hl
  have hl : lv_has ls 4 [(0, .ref (ad 0)), (1, .int a1), (2, .ref q)] := hl
  refine lv_aload_n hx hb dL_house_0 rfl (lv_at hl 2 rfl) ?_
  refine lv_aload_n hx hb dL_house_1 rfl (lv_at hl 0 rfl) ?_
  refine lv_iload_n hx hb dL_house_2 rfl (lv_at hl 1 rfl) ?_
  refine L_calli hw hO hne (vx_runV (own := "LeastreaderLaw") (As := [.int a1]) (rest := [.ref q]) ⟨hx, hb, hml, hown, ht⟩ (c_X9_house hst μ s.heap.size a1 hp) (cwV 1 ht (G_V q_1303 q_1304 q_1305 q_46 q_1306) rfl rfl rfl ⟨rfl, wd_26⟩ ⟨Nat.le_of_ble_eq_true rfl, Nat.le_of_ble_eq_true rfl⟩) ⟨TBX.blind, (T_recv hK hw (kd_of rfl (by decide)) (ent_8 rfl) cl_8), TBX.pre hK hN hX hw⟩ rfl rfl hl.1 rfl (lv_room (Nat.le_of_ble_eq_true rfl)) dL_house_3 ⟨Nat.le_of_ble_eq_true rfl, Nat.le_of_ble_eq_true rfl⟩) (fun E ce q9 μ1 H locs hE hw h1 h2 h3 => ?_) (fun r μ1 H locs hr hw => ?_)
  · rcases hE with ⟨rfl, hq⟩
    · refine vx_catch (name := "java/lang/IllegalArgumentException") hown [] _ _ htab (fun _ h => nomatch h) (by decide) (by decide) (ht _ q_592) (XN.use hX.2.2.1 _ (List.mem_of_getElem? (i := 10) rfl)) h1 h2 h3 ?_
      refine lv_astore_n (lv' := [(3, .ref q9), (0, .ref (ad 0)), (1, .int a1), (2, .ref q)]) hx hb dL_house_13 rfl hl (by decide) rfl (fun ls hl => ?_)
      refine lv_iconst (v := (1 : Int32)) hx hb dL_house_14 (by decide) ?_
      exact hret H locs ls 15 _ _ _ μ1 nv sv hw hq (show 0 + 1 ≤ 1 by omega) (show 0 + 6 ≤ 6 by omega) dL_house_15
  · refine lv_i2l hx hb dL_house_6 rfl ?_
    refine L_putn (v := r.toInt64) hx hb ht hown hN hK hw dL_house_7 (fun H locs hw => ?_)
    refine lv_goto (tgt := 16) hx hb dL_house_10 (by decide) ?_
    refine lv_iconst (v := (0 : Int32)) hx hb dL_house_16 (by decide) ?_
    exact hret H locs ls 17 _ _ _ μ1 _ _ hw hr (show 0 + 1 ≤ 1 by omega) (show 0 + 6 ≤ 6 by omega) dL_house_17
end
/-! part 9m.llib2 -/
section
section LL2
variable {p : Program} {l : Launch} {e : Env} {R : Room} {s : State} {m : MethodId} {args : Array Value} {below : List Frame} {meth : Method} {c : Code} {H : Heap} {locs : List Loc} {cells slots : Nat} {Q : State → Prop}
variable {cc : ByteArray} {pc : Nat} {ls : Array Slot} {rest : List Value} {D : va_G} {ad bd : Nat → Nat} {cI cL cM cB : ClassId} {μ μ1 ν : TMem} {q : Nat} {nv : Int64} {sv : Value} {X : String → TMem → Prop} {a : Array Value} {st0 : List Value} {mc ms : Nat} {N : va_W}
/-- what holds of the machine from the law's start on -/
def LG (D : va_G) (cI cL cM cB : ClassId) (s : State) : Prop := TK D cI cM s ∧ MK D cI cL s ∧ JK D cB s ∧ CN s ∧ NW s ∧ XN s ∧ SR s ∧ NC s ∧ vx_Zq Bundle.tN "UNASSIGNED_STACK" Bundle.steD (SA s.heap.size) s s.heap ∧ vx_Zq Bundle.tN "SUPPRESSED_SENTINEL" Bundle.listD (SA s.heap.size) s s.heap ∧ ZS (SA s.heap.size) s s.heap ∧ TXS (SA s.heap.size) s s.heap
theorem LZ_MA (hw : MW D (MR bd cI ν) N (SA s.heap.size) s H locs) : ∀ z, MA bd H.size z → SA s.heap.size z := fun z h => h.elim (fun ⟨k, hk, e⟩ => by rw [e]; exact hw.2.1.2 k _ (MRN hk)) (fun h => Nat.le_trans hw.2.2.1.1 h)
/-- the tree and the law's own object -/
abbrev TO (ad : Nat → Nat) (cI cM : ClassId) (μ : TMem) (q : Nat) (nv : Int64) (sv : Value) : va_W := TRX ad cI cM μ ++ [OC q nv sv]
theorem TO_t {k : Nat} (hk : k < 59) : (TO ad cI cM μ q nv sv)[k]? = some (ad k, ent ad cI cM (μ k) k) := by
  rw [List.getElem?_append_left (by simp [TRX]; exact hk)]
  exact TRX_at hk
theorem TO_o : (TO ad cI cM μ q nv sv)[59]? = some (OC q nv sv) := by
  have h : (TRX ad cI cM μ).length = 59 := by simp [TRX]
  rw [List.getElem?_append_right (by rw [h]; exact Nat.le_refl _), h]
  rfl
theorem LZ_t (hw : MW D (MR bd cI ν) (TO ad cI cM μ q nv sv) (SA s.heap.size) s H locs) : va_P D CL (TRX ad cI cM μ) H := fun k x hx => by
  obtain ⟨hk, rfl⟩ := TRX_of hx
  exact hw.n (TO_t hk)
theorem LZ_o (hw : MW D (MR bd cI ν) (TO ad cI cM μ q nv sv) (SA s.heap.size) s H locs) : va_at D CL (OC q nv sv) H := hw.n TO_o
theorem LZ_TA (hw : MW D (MR bd cI ν) (TO ad cI cM μ q nv sv) (SA s.heap.size) s H locs) : ∀ z, TA ad H.size z → SA s.heap.size z := fun z h => h.elim (fun ⟨k, hk, e⟩ => by rw [e]; exact hw.2.1.2 _ _ (NAT (RG := MR bd cI ν) (TO_t hk))) (fun h => Nat.le_trans hw.2.2.1.1 h)
theorem LZ_LA (hw : MW D (MR bd cI ν) (TO ad cI cM μ q nv sv) (SA s.heap.size) s H locs) : ∀ z, LA ad q H.size z → SA s.heap.size z := fun z h => h.elim (LZ_TA hw z) (fun e => by rw [e]; exact hw.2.1.2 _ _ (NAT (RG := MR bd cI ν) TO_o))
theorem LZ_ne (hw : MW D (MR bd cI ν) (TO ad cI cM μ q nv sv) (SA s.heap.size) s H locs) : ∀ k, k < 59 → q ≠ ad k := fun k hk e => by
  have := hw.2.1.1 _ _ _ _ (NAT (RG := MR bd cI ν) (TO_t (ad := ad) (cI := cI) (cM := cM) (μ := μ) (q := q) (nv := nv) (sv := sv) hk)) (NAT (RG := MR bd cI ν) (TO_o (ad := ad) (cI := cI) (cM := cM) (μ := μ) (q := q) (nv := nv) (sv := sv))) e.symm
  omega
theorem LA_ws {sz : Nat} : ∀ z, LA ad q sz z → va_A (TO ad cI cM μ q nv sv) sz z := fun z h => by
  rcases h with (⟨k, hk, e⟩ | h) | e
  · rw [e]; exact Or.inl ⟨k, _, TO_t hk⟩
  · exact Or.inr h
  · rw [e]; exact Or.inl ⟨59, _, TO_o⟩
theorem TO_D {sz : Nat} {nv1 : Int64} {sv1 : Value} (hI : TI ad) (hne : ∀ k, k < 59 → q ≠ ad k) : va_D (va_A (TO ad cI cM μ q nv sv) sz) (TO ad cI cM μ1 q nv1 sv1) := by
  have hD := hI.D (cI := cI) (cM := cM) (μ := μ1) (sz := sz)
  refine va_D.app ⟨hD.1, fun k x hx => LA_ws _ (Or.inl (hD.2 k x hx))⟩ ⟨fun i j x y hx hy e => ?_, fun k x hx => ?_⟩ (fun i j x y hx hy e => ?_)
  · cases i with
    | zero => cases j with
      | zero => rfl
      | succ j => simp at hy
    | succ i => simp at hx
  · cases k with
    | zero => cases hx; exact LA_ws _ (Or.inr rfl)
    | succ k => simp at hx
  · cases j with
    | zero =>
      cases hy
      obtain ⟨hi, rfl⟩ := TRX_of hx
      exact hne i hi e.symm
    | succ j => simp at hy
theorem TO_P {nv1 : Int64} {sv1 : Value} (h1 : va_P D CL (TRX ad cI cM μ1) H) (h2 : va_at D CL (OC q nv1 sv1) H) : va_P D CL (TO ad cI cM μ1 q nv1 sv1) H := h1.app (fun k x hx => by
  cases k with
  | zero => cases hx; exact h2
  | succ k => simp at hx)
/-- a call of a wrapper -/
theorem LL_call {PW : Int32 → TMem × Int64 × Value → Prop} (hw : MW D (MR bd cI ν) (TO ad cI cM μ q nv sv) (SA s.heap.size) s H locs) (hI : TI ad) (hr : vx_Run p l e R s m args below meth c H locs cells slots mc ms (F0 m pc ls st0) rest (va_Qi PW (fun u t => va_P D CL (TRX ad cI cM u.1) t.heap ∧ va_at D CL (OC q u.2.1 u.2.2) t.heap) (LA ad q H.size) a) (vx_X (fun _ : Unit => True) (fun _ _ _ => False) (LA ad q H.size)) (LA ad q H.size))
    (kk : ∀ (r : Int32) (μ1 : TMem) (nv1 : Int64) (sv1 : Value) (H1 : Heap) (locs1 : List Loc), PW r (μ1, nv1, sv1) → MW D (MR bd cI ν) (TO ad cI cM μ1 q nv1 sv1) (SA s.heap.size) s H1 locs1 → W p l e R s m args below meth c H1 locs1 (cells + mc) (slots + ms) Q (F0 m (pc + 3) ls (.int r :: rest))) : W p l e R s m args below meth c H locs cells slots Q (F0 m pc ls st0) :=
  vx_calli hr hw.2.2.1 (fun z _ h => LZ_LA hw z h) (fun z h => LZ_LA hw z h) (fun z _ h => LZ_LA hw z h)
    (fun E ce q9 u t H1 locs1 ht _ _ hB _ hk hS h1 h2 h3 => hB.elim)
    (fun r u t H1 locs1 ht _ hq hB _ hk hS => kk r u.1 u.2.1 u.2.2 H1 locs1 hq (MW.repl (N0 := []) (ws := TO ad cI cM μ q nv sv) (ws1 := TO ad cI cM u.1 q u.2.1 u.2.2) hw (fun z h1 h2 => hk z h1 (fun h3 => h2 (LA_ws z h3))) (by rw [← ht]; exact TO_P hB.1 hB.2) (TO_D hI (LZ_ne hw)) hS))
/-- the tree alone was changed -/
theorem LZ_up (hw : MW D (MR bd cI ν) (TO ad cI cM μ q nv sv) (SA s.heap.size) s H locs) (hI : TI ad) {H1 : Heap} {locs1 : List Loc} (hk : ∀ z : Nat, z < H.size → ¬ TA ad H.size z → H1[z]? = H[z]?) (hP : va_P D CL (TRX ad cI cM μ1) H1) (hS : va_S (SA s.heap.size) s.heap H1 locs1) : MW D (MR bd cI ν) (TO ad cI cM μ1 q nv sv) (SA s.heap.size) s H1 locs1 :=
  MW.repl (N0 := []) (ws := TO ad cI cM μ q nv sv) (ws1 := TO ad cI cM μ1 q nv sv) hw (fun z h1 h2 => hk z h1 (fun h3 => h2 (LA_ws z (Or.inl h3)))) (TO_P hP ((LZ_o hw).kept (hk q (LZ_o hw).lt (LA.out (LZ_ne hw) (LZ_o hw).lt)))) (TO_D hI (LZ_ne hw)) hS
theorem LL_ti {Q1 : Int32 → TMem → Prop} (hw : MW D (MR bd cI ν) (TO ad cI cM μ q nv sv) (SA s.heap.size) s H locs) (hI : TI ad) (hr : va_Run p l e R s m args below meth c H locs cells slots mc ms (F0 m pc ls st0) rest (va_Qi Q1 (TE D ad cI cM) (TA ad H.size) a) (TA ad H.size))
    (kk : ∀ (r : Int32) (μ1 : TMem) (H1 : Heap) (locs1 : List Loc), Q1 r μ1 → MW D (MR bd cI ν) (TO ad cI cM μ1 q nv sv) (SA s.heap.size) s H1 locs1 → W p l e R s m args below meth c H1 locs1 (cells + mc) (slots + ms) Q (F0 m (pc + 3) ls (.int r :: rest))) : W p l e R s m args below meth c H locs cells slots Q (F0 m pc ls st0) :=
  va_calli hr hw.2.2.1 (fun z _ h => LZ_TA hw z h) (fun z h => LZ_TA hw z h) (fun r u t H1 locs1 ht _ hq hB _ hk hS => kk r u H1 locs1 hq (LZ_up hw hI hk (by rw [← ht]; exact hB) hS))
theorem LL_xi {Q1 : Int32 → TMem → Prop} (hX : ∀ E μ9, ¬ X E μ9) (hw : MW D (MR bd cI ν) (TO ad cI cM μ q nv sv) (SA s.heap.size) s H locs) (hI : TI ad) (hr : vx_Run p l e R s m args below meth c H locs cells slots mc ms (F0 m pc ls st0) rest (va_Qi Q1 (TE D ad cI cM) (TA ad H.size) a) (vx_X (fun _ : TMem => True) (TEX D ad cI cM X) (TA ad H.size)) (TA ad H.size))
    (kk : ∀ (r : Int32) (μ1 : TMem) (H1 : Heap) (locs1 : List Loc), Q1 r μ1 → MW D (MR bd cI ν) (TO ad cI cM μ1 q nv sv) (SA s.heap.size) s H1 locs1 → W p l e R s m args below meth c H1 locs1 (cells + mc) (slots + ms) Q (F0 m (pc + 3) ls (.int r :: rest))) : W p l e R s m args below meth c H locs cells slots Q (F0 m pc ls st0) :=
  vx_calli hr hw.2.2.1 (fun z _ h => LZ_TA hw z h) (fun z h => LZ_TA hw z h) (fun z _ h => LZ_TA hw z h) (fun E ce q9 u t H1 locs1 ht _ _ hB _ hk hS h1 h2 h3 => absurd hB.1 (hX E u)) (fun r u t H1 locs1 ht _ hq hB _ hk hS => kk r u H1 locs1 hq (LZ_up hw hI hk (by rw [← ht]; exact hB) hS))
theorem LL_xl {Q1 : Int64 → TMem → Prop} (hX : ∀ E μ9, ¬ X E μ9) (hw : MW D (MR bd cI ν) (TO ad cI cM μ q nv sv) (SA s.heap.size) s H locs) (hI : TI ad) (hr : vx_Run p l e R s m args below meth c H locs cells slots mc ms (F0 m pc ls st0) rest (va_Ql Q1 (TE D ad cI cM) (TA ad H.size) a) (vx_X (fun _ : TMem => True) (TEX D ad cI cM X) (TA ad H.size)) (TA ad H.size))
    (kk : ∀ (r : Int64) (μ1 : TMem) (H1 : Heap) (locs1 : List Loc), Q1 r μ1 → MW D (MR bd cI ν) (TO ad cI cM μ1 q nv sv) (SA s.heap.size) s H1 locs1 → W p l e R s m args below meth c H1 locs1 (cells + mc) (slots + ms) Q (F0 m (pc + 3) ls (.long r :: rest))) : W p l e R s m args below meth c H locs cells slots Q (F0 m pc ls st0) :=
  vx_calll hr hw.2.2.1 (fun z _ h => LZ_TA hw z h) (fun z h => LZ_TA hw z h) (fun z _ h => LZ_TA hw z h) (fun E ce q9 u t H1 locs1 ht _ _ hB _ hk hS h1 h2 h3 => absurd hB.1 (hX E u)) (fun r u t H1 locs1 ht _ hq hB _ hk hS => kk r u H1 locs1 hq (LZ_up hw hI hk (by rw [← ht]; exact hB) hS))
theorem MS_callr (hw : MW D (MR bd cI ν) N (SA s.heap.size) s H locs) (hr : va_Run p l e R s m args below meth c H locs cells slots mc ms (F0 m pc ls st0) rest (va_Qr (fun μ1 : TMem => FA ν μ1) (fun μ1 _ t => ME D bd cI μ1 t) (MA bd H.size) a) (MA bd H.size))
    (kk : ∀ (ra : Nat) (ν1 : TMem) (H1 : Heap) (locs1 : List Loc), FA ν ν1 → MW D (MR bd cI ν1) N (SA s.heap.size) s H1 locs1 → W p l e R s m args below meth c H1 locs1 (cells + mc) (slots + ms) Q (F0 m (pc + 3) ls (.ref ra :: rest))) : W p l e R s m args below meth c H locs cells slots Q (F0 m pc ls st0) :=
  va_callr hr hw.2.2.1 (fun z _ h => LZ_MA hw z h) (fun z h => LZ_MA hw z h) (fun u ra t H1 locs1 ht _ hq hB _ hk hS => kk ra u H1 locs1 hq (hw.keepM hk (by rw [← ht]; exact hB) hS))
theorem LG.tb (g : LG D cI cL cM cB s) (hI : TI ad) (hw : MW D (MR bd cI ν) (TO ad cI cM μ q nv sv) (SA s.heap.size) s H locs) {U : State} (hU : U.heap = H) (hW : s.WarmedH U.vm) : TB D ad cI cM H.size μ U := ⟨by rw [hU], by rw [hU]; exact LZ_t hw, va_K.moved hW.alike g.1, hI, NW.warm hW g.2.2.2.2.1⟩
theorem LG.tbx (g : LG D cI cL cM cB s) (hI : TI ad) (hw : MW D (MR bd cI ν) (TO ad cI cM μ q nv sv) (SA s.heap.size) s H locs) {U : State} (hU : U.heap = H) (hW : s.WarmedH U.vm) : TBX D ad cI cM H.size μ U := by
  refine ⟨g.tb hI hw hU hW, ?_, ?_, XN.warm hW g.2.2.2.2.2.1, SR.warm hW g.2.2.2.2.2.2.1⟩
  · rw [hU]
    exact vx_Zq.moved hW.alike ((g.2.2.2.2.2.2.2.2.1.kept hw.2.2.1.2.1).narrow (LZ_TA hw))
  · rw [hU]
    exact vx_Zq.moved hW.alike ((g.2.2.2.2.2.2.2.2.2.1.kept hw.2.2.1.2.1).narrow (LZ_TA hw))
theorem LG.lb {as : List Value} (g : LG D cI cL cM cB s) (hI : TI ad) (hw : MW D (MR bd cI ν) (TO ad cI cM μ q nv sv) (SA s.heap.size) s H locs) : ∀ U : State, U.heap = H → s.WarmedH U.vm → va_Pc as (LB D ad cI cM cB H.size μ q nv sv) as.toArray U := fun U hU hW => by
  refine ⟨rfl, ⟨g.tbx hI hw hU hW, va_K.moved hW.alike g.2.2.1, CN.warm hW g.2.2.2.1, ?_⟩, by rw [hU]; exact LZ_o hw, LZ_ne hw, NC.moved hW.alike g.2.2.2.2.2.2.2.1⟩
  rw [hU]
  exact ((g.2.2.2.2.2.2.2.2.2.2.1.kept hw.2.2.1.2.1).moved hW.alike).narrow (LZ_TA hw)
theorem LG.pT {as : List Value} (g : LG D cI cL cM cB s) (hI : TI ad) (hw : MW D (MR bd cI ν) (TO ad cI cM μ q nv sv) (SA s.heap.size) s H locs) : ∀ U : State, U.heap = H → s.WarmedH U.vm → va_Pc as (TB D ad cI cM H.size μ) as.toArray U := fun U hU hW => ⟨rfl, g.tb hI hw hU hW⟩
theorem LG.pX {as : List Value} (g : LG D cI cL cM cB s) (hI : TI ad) (hw : MW D (MR bd cI ν) (TO ad cI cM μ q nv sv) (SA s.heap.size) s H locs) : ∀ U : State, U.heap = H → s.WarmedH U.vm → va_Pc as (TBX D ad cI cM H.size μ) as.toArray U := fun U hU hW => ⟨rfl, g.tbx hI hw hU hW⟩
theorem LG.pS {as : List Value} (g : LG D cI cL cM cB s) (hJ : MI bd) (hw : MW D (MR bd cI ν) N (SA s.heap.size) s H locs) : ∀ U : State, U.heap = H → s.WarmedH U.vm → va_Pc as (MBS D bd cI cL cB H.size ν) as.toArray U := MBS.pre g.2.1 hJ g.2.2.1 g.2.2.2.1 g.2.2.2.2.2.2.2.2.2.2.1 g.2.2.2.2.2.2.2.2.2.2.2 hw (LZ_MA hw)
theorem LL_rv (g : LG D cI cL cM cB s) (hw : MW D (MR bd cI ν) (TO ad cI cM μ q nv sv) (SA s.heap.size) s H locs) : ∃ cell : Cell, H[ad 0]? = some cell ∧ cell.vm.isStatics = false ∧ s.vm.findClass RX9 = some cell.cls := va_recv g.1 hw.1 cl_8 (NAT (RG := MR bd cI ν) (TO_t (by decide)))
/-- the law's turn: what holds at the place pc -/
def LJ (p : Program) (l : Launch) (e : Env) (s : State) (m : MethodId) (b : Nat) (below : List Frame) (meth : Method) (c : Code) (D : va_G) (ad bd : Nat → Nat) (cI cM : ClassId) (q : Nat) (Z : State → Prop) (JI : TMem → TMem → Prop) (i : Int32) (cv sv pc : Nat) : Prop := ∀ (μ ν : TMem) (nv : Int64) (sw : Value) (H : Heap) (locs : List Loc) (ls : Array Slot), JI μ ν → MW D (MR bd cI ν) (TO ad cI cM μ q nv sw) (SA s.heap.size) s H locs → lv_has ls 7 [(0, .ref b), (1, .ref (ad 0)), (2, .ref (bd 0)), (3, .ref q), (4, .int i)] → W p l e room_1 s m #[.ref b] below meth c H locs cv sv Z (F0 m pc ls [])
def LC (p : Program) (l : Launch) (s : State) (m : MethodId) (b : Nat) (c : Code) (L : Nat) (xs : Nat → Int32) (D : va_G) (ad bd : Nat → Nat) (cI cL cM cB : ClassId) : Prop := p.tables.exec = Jvm.exec ∧ c.code = cL_law ∧ c.maxLocals = 7 ∧ s.vm.findClass "LeastreaderLaw" = some m.cls ∧ (∀ w ∈ W0, w.before #[.ref b] s = true) ∧ LG D cI cL cM cB s ∧ TI ad ∧ MI bd ∧ va_X b L xs s s.heap ∧ b < s.heap.size ∧ l.stackTraces = false ∧ L ≤ 384
theorem LG_cmp {x y : Int64} (h : x = y) : lg_cmp x y = 0 := by
  subst h
  simp [lg_cmp]
theorem L_getn (hx : p.tables.exec = Jvm.exec) (hb : c.code = cc) (ht : ∀ w ∈ W0, w.before args s = true) (hown : s.vm.findClass "LeastreaderLaw" = some m.cls) (hN : NW s) (hK : TK D cI cM s) (hw : MW D (MR bd cI ν) (TO ad cI cM μ q nv sv) (SA s.heap.size) s H locs) (hdg : decode cc pc = .ok (.getfield 13, 3))
    (kk : W p l e R s m args below meth c H locs cells slots Q (F0 m (pc + 3) ls (.long nv :: rest))) : W p l e R s m args below meth c H locs cells slots Q (F0 m pc ls (.ref q :: rest)) :=
  va_getN hx hb ht in_9 hown hK hw.1 ((MR bd cI ν).length + 59) (NAT TO_o) cl_9 0 (by decide) (nwu_581 hN) (fun _ h => h) rfl hdg kk
end LL2
end
/-! part 9ma.gm -/
section
def RW_begin (JI : TMem → TMem → Prop) (ν : TMem) (a1 : Int32) (a2 : Int32) (k : Int32) (nv : Int64) (μ9 : TMem) : Prop := wp_X11_begin ν a1 a2 (fun b ν9 => JI μ9 ν9)
def GM_begin (JI : TMem → TMem → Prop) : Prop := ∀ (μ ν : TMem) (nv : Int64) (a1 : Int32) (a2 : Int32), JI μ ν → wp_X9_begin μ a1 a2 (fun r μ9 => RW_begin JI ν a1 a2 0 r.toInt64 μ9) (fun E μ9 => (E = "java/lang/IndexOutOfBoundsException" ∧ RW_begin JI ν a1 a2 1 nv μ9) ∨ (E = "java/lang/IllegalArgumentException" ∧ RW_begin JI ν a1 a2 2 nv μ9))
def RW_arrow (JI : TMem → TMem → Prop) (ν : TMem) (a1 : Int32) (a2 : Int32) (a3 : Int32) (a4 : Int32) (a5 : Int32) (k : Int32) (nv : Int64) (μ9 : TMem) : Prop := wp_X11_arrow ν a1 a2 a3 a4 a5 (fun b ν9 => JI μ9 ν9)
def GM_arrow (JI : TMem → TMem → Prop) : Prop := ∀ (μ ν : TMem) (nv : Int64) (a1 : Int32) (a2 : Int32) (a3 : Int32) (a4 : Int32) (a5 : Int32), JI μ ν → wp_X9_arrow μ a1 a2 a3 a4 a5 (fun r μ9 => RW_arrow JI ν a1 a2 a3 a4 a5 0 r.toInt64 μ9) (fun E μ9 => (E = "java/lang/IndexOutOfBoundsException" ∧ RW_arrow JI ν a1 a2 a3 a4 a5 1 nv μ9) ∨ (E = "java/lang/IllegalArgumentException" ∧ RW_arrow JI ν a1 a2 a3 a4 a5 2 nv μ9))
def RW_lead (JI : TMem → TMem → Prop) (ν : TMem) (a1 : Int32) (a2 : Int32) (a3 : Int32) (a4 : Int32) (k : Int32) (nv : Int64) (μ9 : TMem) : Prop := wp_X11_lead ν a1 a2 a3 a4 (fun b ν9 => JI μ9 ν9)
def GM_lead (JI : TMem → TMem → Prop) : Prop := ∀ (μ ν : TMem) (nv : Int64) (a1 : Int32) (a2 : Int32) (a3 : Int32) (a4 : Int32), JI μ ν → wp_X9_lead μ a1 a2 a3 a4 (fun r μ9 => RW_lead JI ν a1 a2 a3 a4 0 r.toInt64 μ9) (fun E μ9 => (E = "java/lang/IndexOutOfBoundsException" ∧ RW_lead JI ν a1 a2 a3 a4 1 nv μ9) ∨ (E = "java/lang/IllegalArgumentException" ∧ RW_lead JI ν a1 a2 a3 a4 2 nv μ9))
def RW_mark (JI : TMem → TMem → Prop) (ν : TMem) (a1 : Int32) (a2 : Int32) (a3 : Int32) (a4 : Int32) (k : Int32) (nv : Int64) (μ9 : TMem) : Prop := wp_X11_mark ν a1 a2 a3 a4 (fun b ν9 => JI μ9 ν9)
def GM_mark (JI : TMem → TMem → Prop) : Prop := ∀ (μ ν : TMem) (nv : Int64) (a1 : Int32) (a2 : Int32) (a3 : Int32) (a4 : Int32), JI μ ν → wp_X9_mark μ a1 a2 a3 a4 (fun r μ9 => RW_mark JI ν a1 a2 a3 a4 0 r.toInt64 μ9) (fun E μ9 => (E = "java/lang/IndexOutOfBoundsException" ∧ RW_mark JI ν a1 a2 a3 a4 1 nv μ9))
def RW_sow (JI : TMem → TMem → Prop) (ν : TMem) (a1 : Int32) (a2 : Int32) (a3 : Int32) (a4 : Int32) (k : Int32) (nv : Int64) (μ9 : TMem) : Prop := wp_X11_sow ν a1 a2 a3 a4 (fun b ν9 => JI μ9 ν9)
def GM_sow (JI : TMem → TMem → Prop) : Prop := ∀ (μ ν : TMem) (nv : Int64) (a1 : Int32) (a2 : Int32) (a3 : Int32) (a4 : Int32), JI μ ν → wp_X9_sow μ a1 a2 a3 a4 (fun r μ9 => RW_sow JI ν a1 a2 a3 a4 0 r.toInt64 μ9) (fun E μ9 => (E = "java/lang/IndexOutOfBoundsException" ∧ RW_sow JI ν a1 a2 a3 a4 1 nv μ9) ∨ (E = "java/lang/IllegalArgumentException" ∧ RW_sow JI ν a1 a2 a3 a4 2 nv μ9))
def RW_copy (JI : TMem → TMem → Prop) (ν : TMem) (a1 : Int32) (a2 : Int32) (k : Int32) (nv : Int64) (μ9 : TMem) : Prop := wp_X11_copy ν a1 a2 (fun b ν9 => JI μ9 ν9)
def GM_copy (JI : TMem → TMem → Prop) : Prop := ∀ (μ ν : TMem) (nv : Int64) (a1 : Int32) (a2 : Int32), JI μ ν → wp_X9_copy μ a1 a2 (fun r μ9 => RW_copy JI ν a1 a2 0 r.toInt64 μ9) (fun E μ9 => (E = "java/lang/IndexOutOfBoundsException" ∧ RW_copy JI ν a1 a2 1 nv μ9))
def RW_swap (JI : TMem → TMem → Prop) (ν : TMem) (a1 : Int32) (a2 : Int32) (k : Int32) (nv : Int64) (μ9 : TMem) : Prop := wp_X11_swap ν a1 a2 (fun b ν9 => JI μ9 ν9)
def GM_swap (JI : TMem → TMem → Prop) : Prop := ∀ (μ ν : TMem) (nv : Int64) (a1 : Int32) (a2 : Int32), JI μ ν → wp_X9_swap μ a1 a2 (fun r μ9 => RW_swap JI ν a1 a2 0 r.toInt64 μ9) (fun E μ9 => (E = "java/lang/IndexOutOfBoundsException" ∧ RW_swap JI ν a1 a2 1 nv μ9))
def RW_turn (JI : TMem → TMem → Prop) (ν : TMem) (a1 : Int32) (k : Int32) (nv : Int64) (μ9 : TMem) : Prop := wp_X11_turn ν a1 (fun b ν9 => JI μ9 ν9)
def GM_turn (JI : TMem → TMem → Prop) : Prop := ∀ (μ ν : TMem) (nv : Int64) (a1 : Int32), JI μ ν → wp_X9_turn μ a1 (fun r μ9 => RW_turn JI ν a1 0 r.toInt64 μ9) (fun E μ9 => (E = "java/lang/IndexOutOfBoundsException" ∧ RW_turn JI ν a1 1 nv μ9))
def RW_other (JI : TMem → TMem → Prop) (ν : TMem) (a1 : Int32) (k : Int32) (nv : Int64) (μ9 : TMem) : Prop := wp_X11_other ν a1 (fun b ν9 => JI μ9 ν9)
def GM_other (JI : TMem → TMem → Prop) : Prop := ∀ (μ ν : TMem) (nv : Int64) (a1 : Int32), JI μ ν → wp_X9_other μ a1 (fun r μ9 => RW_other JI ν a1 0 r.toInt64 μ9) (fun E μ9 => (E = "java/lang/IndexOutOfBoundsException" ∧ RW_other JI ν a1 1 nv μ9))
def RW_grow (JI : TMem → TMem → Prop) (ν : TMem) (a1 : Int32) (k : Int32) (nv : Int64) (μ9 : TMem) : Prop := wp_X11_grow ν a1 (fun b ν9 => JI μ9 ν9)
def GM_grow (JI : TMem → TMem → Prop) : Prop := ∀ (μ ν : TMem) (nv : Int64) (a1 : Int32), JI μ ν → wp_X9_grow μ a1 (fun r μ9 => RW_grow JI ν a1 0 r.toInt64 μ9) (fun E μ9 => (E = "java/lang/IndexOutOfBoundsException" ∧ RW_grow JI ν a1 1 nv μ9))
def RW_drop (JI : TMem → TMem → Prop) (ν : TMem) (a1 : Int32) (a2 : Int32) (k : Int32) (nv : Int64) (μ9 : TMem) : Prop := wp_X11_drop ν a1 a2 (fun b ν9 => JI μ9 ν9)
def GM_drop (JI : TMem → TMem → Prop) : Prop := ∀ (μ ν : TMem) (nv : Int64) (a1 : Int32) (a2 : Int32), JI μ ν → wp_X9_drop μ a1 a2 (fun r μ9 => RW_drop JI ν a1 a2 0 r.toInt64 μ9) (fun E μ9 => (E = "java/lang/IndexOutOfBoundsException" ∧ RW_drop JI ν a1 a2 1 nv μ9))
def RW_make (JI : TMem → TMem → Prop) (ν : TMem) (a1 : Int32) (a2 : Int32) (a3 : Int32) (k : Int32) (nv : Int64) (μ9 : TMem) : Prop := wp_X11_make ν a1 a2 a3 (fun b ν9 => JI μ9 ν9)
def GM_make (JI : TMem → TMem → Prop) : Prop := ∀ (μ ν : TMem) (nv : Int64) (a1 : Int32) (a2 : Int32) (a3 : Int32), JI μ ν → wp_X9_make μ a1 a2 a3 (fun r μ9 => RW_make JI ν a1 a2 a3 0 r.toInt64 μ9) (fun E μ9 => (E = "java/lang/IndexOutOfBoundsException" ∧ RW_make JI ν a1 a2 a3 1 nv μ9))
def RW_combine (JI : TMem → TMem → Prop) (ν : TMem) (a1 : Int32) (a2 : Int32) (a3 : Int32) (a4 : Int32) (k : Int32) (nv : Int64) (μ9 : TMem) : Prop := wp_X11_combine ν a1 a2 a3 a4 (fun b ν9 => JI μ9 ν9)
def GM_combine (JI : TMem → TMem → Prop) : Prop := ∀ (μ ν : TMem) (nv : Int64) (a1 : Int32) (a2 : Int32) (a3 : Int32) (a4 : Int32), JI μ ν → wp_X9_combine μ a1 a2 a3 a4 (fun r μ9 => RW_combine JI ν a1 a2 a3 a4 0 r.toInt64 μ9) (fun E μ9 => (E = "java/lang/IndexOutOfBoundsException" ∧ RW_combine JI ν a1 a2 a3 a4 1 nv μ9) ∨ (E = "java/lang/IllegalArgumentException" ∧ RW_combine JI ν a1 a2 a3 a4 2 nv μ9))
def RW_tell (JI : TMem → TMem → Prop) (ν : TMem) (a1 : Int32) (a2 : Int32) (k : Int32) (nv : Int64) (μ9 : TMem) : Prop := wp_X11_tell ν a1 a2 (fun b ν9 => JI μ9 ν9)
def GM_tell (JI : TMem → TMem → Prop) : Prop := ∀ (μ ν : TMem) (nv : Int64) (a1 : Int32) (a2 : Int32), JI μ ν → wp_X9_tell μ a1 a2 (fun r μ9 => RW_tell JI ν a1 a2 0 r.toInt64 μ9) (fun E μ9 => (E = "java/lang/IndexOutOfBoundsException" ∧ RW_tell JI ν a1 a2 1 nv μ9) ∨ (E = "java/lang/IllegalArgumentException" ∧ RW_tell JI ν a1 a2 2 nv μ9))
def RW_arrows (JI : TMem → TMem → Prop) (ν : TMem) (a1 : Int32) (a2 : Int32) (a3 : Int32) (k : Int32) (nv : Int64) (μ9 : TMem) : Prop := wp_X11_arrows ν a1 a2 a3 (fun b ν9 => JI μ9 ν9)
def GM_arrows (JI : TMem → TMem → Prop) : Prop := ∀ (μ ν : TMem) (nv : Int64) (a1 : Int32) (a2 : Int32) (a3 : Int32), JI μ ν → wp_X9_arrows μ a1 a2 a3 (fun r μ9 => RW_arrows JI ν a1 a2 a3 0 r.toInt64 μ9) (fun E μ9 => (E = "java/lang/IndexOutOfBoundsException" ∧ RW_arrows JI ν a1 a2 a3 1 nv μ9) ∨ (E = "java/lang/IllegalArgumentException" ∧ RW_arrows JI ν a1 a2 a3 2 nv μ9))
def RW_takes (JI : TMem → TMem → Prop) (ν : TMem) (a1 : Int32) (a2 : Int32) (a3 : Int32) (k : Int32) (nv : Int64) (μ9 : TMem) : Prop := wp_X11_takes ν a1 a2 a3 (fun b ν9 => JI μ9 ν9)
def GM_takes (JI : TMem → TMem → Prop) : Prop := ∀ (μ ν : TMem) (nv : Int64) (a1 : Int32) (a2 : Int32) (a3 : Int32), JI μ ν → wp_X9_takes μ a1 a2 a3 (fun r μ9 => RW_takes JI ν a1 a2 a3 0 (if r = 0 then (0 : Int64) else 1) μ9) (fun E μ9 => (E = "java/lang/IndexOutOfBoundsException" ∧ RW_takes JI ν a1 a2 a3 1 nv μ9) ∨ (E = "java/lang/IllegalArgumentException" ∧ RW_takes JI ν a1 a2 a3 2 nv μ9))
def RW_after (JI : TMem → TMem → Prop) (ν : TMem) (a1 : Int32) (a2 : Int32) (a3 : Int32) (a4 : Int32) (k : Int32) (nv : Int64) (μ9 : TMem) : Prop := wp_X11_after ν a1 a2 a3 a4 (fun b ν9 => JI μ9 ν9)
def GM_after (JI : TMem → TMem → Prop) : Prop := ∀ (μ ν : TMem) (nv : Int64) (a1 : Int32) (a2 : Int32) (a3 : Int32) (a4 : Int32), JI μ ν → wp_X9_after μ a1 a2 a3 a4 (fun r μ9 => RW_after JI ν a1 a2 a3 a4 0 r.toInt64 μ9) (fun E μ9 => (E = "java/lang/IndexOutOfBoundsException" ∧ RW_after JI ν a1 a2 a3 a4 1 nv μ9) ∨ (E = "java/lang/IllegalArgumentException" ∧ RW_after JI ν a1 a2 a3 a4 2 nv μ9) ∨ (E = "java/lang/IllegalStateException" ∧ RW_after JI ν a1 a2 a3 a4 3 nv μ9))
def RW_size (JI : TMem → TMem → Prop) (ν : TMem) (a1 : Int32) (a2 : Int32) (k : Int32) (nv : Int64) (μ9 : TMem) : Prop := wp_X11_size ν a1 a2 (fun b ν9 => JI μ9 ν9)
def GM_size (JI : TMem → TMem → Prop) : Prop := ∀ (μ ν : TMem) (nv : Int64) (a1 : Int32) (a2 : Int32), JI μ ν → wp_X9_size μ a1 a2 (fun r μ9 => RW_size JI ν a1 a2 0 r.toInt64 μ9) (fun E μ9 => (E = "java/lang/IndexOutOfBoundsException" ∧ RW_size JI ν a1 a2 1 nv μ9) ∨ (E = "java/lang/IllegalArgumentException" ∧ RW_size JI ν a1 a2 2 nv μ9) ∨ (E = "java/lang/IllegalStateException" ∧ RW_size JI ν a1 a2 3 nv μ9))
def RW_text (JI : TMem → TMem → Prop) (ν μ9 : TMem) : Prop := ∀ ν9 : TMem, FA ν ν9 → JI μ9 ν9
def GM_text (JI : TMem → TMem → Prop) : Prop := ∀ (μ ν : TMem) (a1 : Int32) (a2 : Int32), JI μ ν → wp_X9_text μ a1 a2 (fun μ9 => ∀ _ : Option Nat, RW_text JI ν μ9) (fun E μ9 => (E = "java/lang/IndexOutOfBoundsException" ∧ RW_text JI ν μ9) ∨ (E = "java/lang/IllegalArgumentException" ∧ RW_text JI ν μ9) ∨ (E = "java/lang/IllegalStateException" ∧ RW_text JI ν μ9))
def RW_kind (JI : TMem → TMem → Prop) (ν : TMem) (a1 : Int32) (k : Int32) (nv : Int64) (μ9 : TMem) : Prop := wp_X11_kind ν a1 (fun b ν9 => JI μ9 ν9)
def GM_kind (JI : TMem → TMem → Prop) : Prop := ∀ (μ ν : TMem) (nv : Int64) (a1 : Int32), JI μ ν → wp_X9_kind μ a1 (fun r μ9 => RW_kind JI ν a1 0 r.toInt64 μ9) (fun E μ9 => (E = "java/lang/IndexOutOfBoundsException" ∧ RW_kind JI ν a1 1 nv μ9) ∨ (E = "java/lang/IllegalStateException" ∧ RW_kind JI ν a1 2 nv μ9))
def RW_many (JI : TMem → TMem → Prop) (ν : TMem) (a1 : Int32) (a2 : Int32) (a3 : Int32) (k : Int32) (nv : Int64) (μ9 : TMem) : Prop := wp_X11_many ν a1 a2 a3 (fun b ν9 => JI μ9 ν9)
def GM_many (JI : TMem → TMem → Prop) : Prop := ∀ (μ ν : TMem) (nv : Int64) (a1 : Int32) (a2 : Int32) (a3 : Int32), JI μ ν → wp_X9_many μ a1 a2 a3 (fun r μ9 => RW_many JI ν a1 a2 a3 0 r.toInt64 μ9) (fun E μ9 => (E = "java/lang/IndexOutOfBoundsException" ∧ RW_many JI ν a1 a2 a3 1 nv μ9) ∨ (E = "java/lang/IllegalArgumentException" ∧ RW_many JI ν a1 a2 a3 2 nv μ9) ∨ (E = "java/lang/IllegalStateException" ∧ RW_many JI ν a1 a2 a3 3 nv μ9))
def RW_word (JI : TMem → TMem → Prop) (ν μ9 : TMem) : Prop := ∀ ν9 : TMem, FA ν ν9 → JI μ9 ν9
def GM_word (JI : TMem → TMem → Prop) : Prop := ∀ (μ ν : TMem) (a1 : Int32) (a2 : Int32), JI μ ν → wp_X9_word μ a1 a2 (fun μ9 => ∀ _ : Option Nat, RW_word JI ν μ9) (fun E μ9 => (E = "java/lang/IndexOutOfBoundsException" ∧ RW_word JI ν μ9) ∨ (E = "java/lang/IllegalArgumentException" ∧ RW_word JI ν μ9) ∨ (E = "java/lang/IllegalStateException" ∧ RW_word JI ν μ9))
def RW_isAlike (JI : TMem → TMem → Prop) (ν : TMem) (a1 : Int32) (a2 : Int32) (a3 : Int32) (k : Int32) (nv : Int64) (μ9 : TMem) : Prop := wp_X11_isAlike ν a1 a2 a3 (fun b ν9 => JI μ9 ν9)
def GM_isAlike (JI : TMem → TMem → Prop) : Prop := ∀ (μ ν : TMem) (nv : Int64) (a1 : Int32) (a2 : Int32) (a3 : Int32), JI μ ν → wp_X9_isAlike μ a1 a2 a3 (fun r μ9 => RW_isAlike JI ν a1 a2 a3 0 (if r = 0 then (0 : Int64) else 1) μ9) (fun E μ9 => (E = "java/lang/IndexOutOfBoundsException" ∧ RW_isAlike JI ν a1 a2 a3 1 nv μ9) ∨ (E = "java/lang/IllegalArgumentException" ∧ RW_isAlike JI ν a1 a2 a3 2 nv μ9) ∨ (E = "java/lang/IllegalStateException" ∧ RW_isAlike JI ν a1 a2 a3 3 nv μ9))
def RW_apart (JI : TMem → TMem → Prop) (ν μ9 : TMem) : Prop := ∀ ν9 : TMem, FA ν ν9 → JI μ9 ν9
def GM_apart (JI : TMem → TMem → Prop) : Prop := ∀ (μ ν : TMem) (a1 : Int32) (a2 : Int32), JI μ ν → wp_X9_apart μ a1 a2 (fun μ9 => ∀ _ : Option Nat, RW_apart JI ν μ9) (fun E μ9 => (E = "java/lang/IndexOutOfBoundsException" ∧ RW_apart JI ν μ9) ∨ (E = "java/lang/IllegalStateException" ∧ RW_apart JI ν μ9))
def RW_pairs (JI : TMem → TMem → Prop) (ν : TMem) (a1 : Int32) (a2 : Int32) (k : Int32) (nv : Int64) (μ9 : TMem) : Prop := wp_X11_pairs ν a1 a2 (fun b ν9 => JI μ9 ν9)
def GM_pairs (JI : TMem → TMem → Prop) : Prop := ∀ (μ ν : TMem) (nv : Int64) (a1 : Int32) (a2 : Int32), JI μ ν → wp_X9_pairs μ a1 a2 (fun r μ9 => RW_pairs JI ν a1 a2 0 r.toInt64 μ9) (fun E μ9 => (E = "java/lang/IndexOutOfBoundsException" ∧ RW_pairs JI ν a1 a2 1 nv μ9) ∨ (E = "java/lang/IllegalStateException" ∧ RW_pairs JI ν a1 a2 2 nv μ9))
def RW_together (JI : TMem → TMem → Prop) (ν : TMem) (a1 : Int32) (a2 : Int32) (a3 : Int32) (a4 : Int32) (k : Int32) (nv : Int64) (μ9 : TMem) : Prop := wp_X11_together ν a1 a2 a3 a4 (fun b ν9 => JI μ9 ν9)
def GM_together (JI : TMem → TMem → Prop) : Prop := ∀ (μ ν : TMem) (nv : Int64) (a1 : Int32) (a2 : Int32) (a3 : Int32) (a4 : Int32), JI μ ν → wp_X9_together μ a1 a2 a3 a4 (fun r μ9 => RW_together JI ν a1 a2 a3 a4 0 r.toInt64 μ9) (fun E μ9 => (E = "java/lang/IndexOutOfBoundsException" ∧ RW_together JI ν a1 a2 a3 a4 1 nv μ9) ∨ (E = "java/lang/IllegalArgumentException" ∧ RW_together JI ν a1 a2 a3 a4 2 nv μ9) ∨ (E = "java/lang/IllegalStateException" ∧ RW_together JI ν a1 a2 a3 a4 3 nv μ9))
def RW_house (JI : TMem → TMem → Prop) (ν : TMem) (a1 : Int32) (k : Int32) (nv : Int64) (μ9 : TMem) : Prop := wp_X11_house ν a1 (fun b ν9 => JI μ9 ν9)
def GM_house (JI : TMem → TMem → Prop) : Prop := ∀ (μ ν : TMem) (nv : Int64) (a1 : Int32), JI μ ν → wp_X9_house μ a1 (fun r μ9 => RW_house JI ν a1 0 r.toInt64 μ9) (fun E μ9 => (E = "java/lang/IllegalArgumentException" ∧ RW_house JI ν a1 1 nv μ9))
def GM_knock (JI : TMem → TMem → Prop) : Prop := ∀ (μ ν : TMem), JI μ ν → wp_X9_knock μ (fun r μ9 => wp_X11_knock ν (fun b ν9 => JI μ9 ν9))
def GM_isSound (JI : TMem → TMem → Prop) : Prop := ∀ (μ ν : TMem), JI μ ν → wp_X9_isSound μ (fun r μ9 => wp_X11_isSound ν (fun b ν9 => JI μ9 ν9)) (fun _ _ => False)
def GM_digest (JI : TMem → TMem → Prop) : Prop := ∀ (μ ν : TMem), JI μ ν → wp_X9_digest μ (fun r μ9 => wp_X11_digest ν (fun b ν9 => JI μ9 ν9 ∧ r = b)) (fun _ _ => False)
theorem k_knock {μ : TMem} {Q : Int32 → TMem → Prop} (h : ∀ μ9 : TMem, (GB μ → GB μ9) → μ9 0 13 = μ 0 13 + 1 → Q (μ 0 13 + 1) μ9) : wp_X9_knock μ Q := by
  have e : (tms μ 0 13 (μ 0 13 + 1)) 0 13 = μ 0 13 + 1 := by simp [tms, upd]
  have e' : wp_X9_knock μ Q = Q ((tms μ 0 13 (μ 0 13 + 1)) 0 13) (tms μ 0 13 (μ 0 13 + 1)) := rfl
  rw [e', e]
  exact h _ (fun g i => by simpa [tms] using g i) e
end
