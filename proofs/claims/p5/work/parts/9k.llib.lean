section LLB
def KQ (μ μ9 : TMem) : Prop := μ9 0 13 = μ 0 13 ∧ (GB μ → GB μ9)
theorem Fr.kq {lv : Nat} {μ μ1 : TMem} (f : Fr lv μ μ1) (hp : prot lv (kd 0) 13 = true) : KQ μ μ1 := ⟨f.1 0 13 hp, f.2⟩
/-- the law's own object: what an answer was -/
abbrev OC (q : Nat) (nv : Int64) (sv : Value) : Nat × va_E := (q, .inr (9, [.long nv, sv]))
def LA (ad : Nat → Nat) (q sz : Nat) : Nat → Prop := fun a => TA ad sz a ∨ a = q
def NCl : List (String × String) := [("java/lang/IllegalArgumentException", "java/lang/IllegalStateException"), ("java/lang/IllegalArgumentException", "java/lang/IndexOutOfBoundsException"), ("java/lang/IllegalStateException", "java/lang/IllegalArgumentException"), ("java/lang/IllegalStateException", "java/lang/IndexOutOfBoundsException"), ("java/lang/IndexOutOfBoundsException", "java/lang/IllegalArgumentException"), ("java/lang/IndexOutOfBoundsException", "java/lang/IllegalStateException")]
def NC (U : State) : Prop := ∀ x ∈ NCl, va_Nc x.1 x.2 U
theorem NC.moved {u U : State} (h : u.vm.Alike U.vm) (hN : NC u) : NC U := fun x hx => (hN x hx).moved h
def LB (D : va_G) (ad : Nat → Nat) (cI cM cB : ClassId) (sz : Nat) (μ : TMem) (q : Nat) (nv : Int64) (sv : Value) : State → Prop := fun U => TBXS D ad cI cM cB sz μ U ∧ va_at D CL (OC q nv sv) U.heap ∧ (∀ k, k < 59 → q ≠ ad k) ∧ NC U
/-- a wrapper of the law's: never throws; its answer, the tree and the law's own object behind it are as PW says -/
def LWm (l : Launch) (y : MethodName) (cd : Cond) (h c n : Nat) (as : List Value) (D : va_G) (ad : Nat → Nat) (cI cM cB : ClassId) (sz : Nat) (μ : TMem) (q : Nat) (nv : Int64) (sv : Value) (PW : Int32 → TMem × Int64 × Value → Prop) : Prop := vx_Met l y (cd :: W0) (RX h c n) (va_Pc as (LB D ad cI cM cB sz μ q nv sv)) (va_Qi PW (fun u t => va_P D CL (TRX ad cI cM u.1) t.heap ∧ va_at D CL (OC q u.2.1 u.2.2) t.heap) (LA ad q sz)) (vx_X (fun _ : Unit => True) (fun _ _ _ => False) (LA ad q sz)) c n (LA ad q sz)
variable {p : Program} {l : Launch} {e : Env} {R : Room} {s : State} {m : MethodId} {args : Array Value} {below : List Frame} {meth : Method} {c : Code} {H : Heap} {locs : List Loc} {cells slots : Nat} {Q : State → Prop}
variable {cc : ByteArray} {pc : Nat} {ls : Array Slot} {rest : List Value} {D : va_G} {ad : Nat → Nat} {cI cM cB : ClassId} {μ μ1 : TMem} {q : Nat} {nv : Int64} {sv : Value} {X : String → TMem → Prop} {a : Array Value} {st0 : List Value} {mc ms : Nat}
theorem LB.blind {as : List Value} {sz : Nat} : FrameBlind (va_Pc as (LB D ad cI cM cB sz μ q nv sv)) := fun z U g mk h => by
  obtain ⟨q0, q1, q2, q3, q4⟩ := h
  exact ⟨q0, (TBXS.blind z U g mk ⟨q0, q1⟩).2, q2, q3, NC.moved (u := U) (U := U.calling g mk z) (Vm.Alike.refl U.vm) q4⟩
theorem LA.out (hne : ∀ k, k < 59 → q ≠ ad k) {sz : Nat} (hq : q < sz) : ¬ TA ad sz q := fun z => z.elim (fun ⟨k, hk, e⟩ => hne k hk e) (fun z => absurd hq (Nat.not_lt.mpr z))
theorem LW.mk (hI : TI ad) (hO : va_at D CL (OC q nv sv) s.heap) (hne : ∀ k, k < 59 → q ≠ ad k) (hP : va_P D CL (TRX ad cI cM μ1) H) (hk : ∀ z : Nat, z < s.heap.size → ¬ TA ad s.heap.size z → H[z]? = s.heap[z]?) (hS : va_S (LA ad q s.heap.size) s.heap H locs) : MW D (TRX ad cI cM μ1) [OC q nv sv] (LA ad q s.heap.size) s H locs := by
  have hD := hI.D (cI := cI) (cM := cM) (μ := μ1) (sz := s.heap.size)
  refine ⟨hP.app (fun k x hx => ?_), va_D.app ⟨hD.1, fun k x hx => Or.inl (hD.2 k x hx)⟩ ⟨fun i j x y hx hy e => ?_, fun k x hx => ?_⟩ (fun i j x y hx hy e => ?_), hS, fun z h => Or.inl (Or.inr h)⟩
  · cases k with
    | zero => cases hx; exact hO.kept (hk q hO.lt (LA.out hne hO.lt))
    | succ k => simp at hx
  · cases i with
    | zero => cases j with
      | zero => rfl
      | succ j => simp at hy
    | succ i => simp at hx
  · cases k with
    | zero => cases hx; exact Or.inr rfl
    | succ k => simp at hx
  · cases j with
    | zero =>
      cases hy
      obtain ⟨hi, rfl⟩ := TRX_of hx
      exact hne i hi e.symm
    | succ j => simp at hy
theorem L_calli {Q1 : Int32 → TMem → Prop} (hw : TW D ad cI cM s μ s.heap []) (hO : va_at D CL (OC q nv sv) s.heap) (hne : ∀ k, k < 59 → q ≠ ad k) (hr : vx_Run p l e R s m args below meth c s.heap [] cells slots mc ms (F0 m pc ls st0) rest (va_Qi Q1 (TE D ad cI cM) (TA ad s.heap.size) a) (vx_X (fun _ : TMem => True) (TEX D ad cI cM X) (TA ad s.heap.size)) (TA ad s.heap.size))
    (kx : ∀ (E : String) (ce : Cell) (q9 : Addr) (μ1 : TMem) (H1 : Heap) (locs1 : List Loc), X E μ1 → MW D (TRX ad cI cM μ1) [OC q nv sv] (LA ad q s.heap.size) s H1 locs1 → H1[q9]? = some ce → ce.vm = .none → s.vm.findClass E = some ce.cls → vx_W p l e R s m args below meth c H1 locs1 (cells + mc) (slots + ms) Q (F0 m pc ls rest) q9)
    (kk : ∀ (r : Int32) (μ1 : TMem) (H1 : Heap) (locs1 : List Loc), Q1 r μ1 → MW D (TRX ad cI cM μ1) [OC q nv sv] (LA ad q s.heap.size) s H1 locs1 → W p l e R s m args below meth c H1 locs1 (cells + mc) (slots + ms) Q (F0 m (pc + 3) ls (.int r :: rest))) : W p l e R s m args below meth c s.heap [] cells slots Q (F0 m pc ls st0) :=
  vx_calli hr (va_S.rf : va_S (LA ad q s.heap.size) s.heap s.heap []) (fun q _ h => Or.inl h) (fun q h => Or.inl h) (fun q _ h => Or.inl h)
    (fun E ce q9 u t H1 locs1 ht _ _ hB _ hk hS h1 h2 h3 => kx E ce q9 u H1 locs1 hB.1 (LW.mk hw.2.1 hO hne (by rw [← ht]; exact hB.2) hk hS) h1 h2 h3)
    (fun r u t H1 locs1 ht _ hq hB _ hk hS => kk r u H1 locs1 hq (LW.mk hw.2.1 hO hne (by rw [← ht]; exact hB) hk hS))
theorem L_calls {Q1 : TMem → Prop} (hw : TW D ad cI cM s μ s.heap []) (hO : va_at D CL (OC q nv sv) s.heap) (hne : ∀ k, k < 59 → q ≠ ad k) (hr : vx_Run p l e R s m args below meth c s.heap [] cells slots mc ms (F0 m pc ls st0) rest (va_Qq (fun (_ : Option Nat) (u : TMem) => Q1 u) (TE D ad cI cM) (TA ad s.heap.size) a) (vx_X (fun _ : TMem => True) (TEX D ad cI cM X) (TA ad s.heap.size)) (TA ad s.heap.size))
    (kx : ∀ (E : String) (ce : Cell) (q9 : Addr) (μ1 : TMem) (H1 : Heap) (locs1 : List Loc), X E μ1 → MW D (TRX ad cI cM μ1) [OC q nv sv] (LA ad q s.heap.size) s H1 locs1 → H1[q9]? = some ce → ce.vm = .none → s.vm.findClass E = some ce.cls → vx_W p l e R s m args below meth c H1 locs1 (cells + mc) (slots + ms) Q (F0 m pc ls rest) q9)
    (kk : ∀ (r : Option Nat) (μ1 : TMem) (H1 : Heap) (locs1 : List Loc), Q1 μ1 → MW D (TRX ad cI cM μ1) [OC q nv sv] (LA ad q s.heap.size) s H1 locs1 → W p l e R s m args below meth c H1 locs1 (cells + mc) (slots + ms) Q (F0 m (pc + 3) ls (va_rf r :: rest))) : W p l e R s m args below meth c s.heap [] cells slots Q (F0 m pc ls st0) :=
  vx_callq2 hr (va_S.rf : va_S (LA ad q s.heap.size) s.heap s.heap []) (fun q _ h => Or.inl h) (fun q h => Or.inl h) (fun q _ h => Or.inl h)
    (fun E ce q9 u t H1 locs1 ht _ _ hB _ hk hS h1 h2 h3 => kx E ce q9 u H1 locs1 hB.1 (LW.mk hw.2.1 hO hne (by rw [← ht]; exact hB.2) hk hS) h1 h2 h3)
    (fun r u t H1 locs1 ht _ hq hB _ hk hS => kk r u H1 locs1 hq (LW.mk hw.2.1 hO hne (by rw [← ht]; exact hB) hk hS))
theorem L_putn {v : Int64} (hx : p.tables.exec = Jvm.exec) (hb : c.code = cc) (ht : ∀ w ∈ W0, w.before args s = true) (hown : s.vm.findClass "LeastreaderLaw" = some m.cls) (hN : NW s) (hK : TK D cI cM s) (hw : MW D (TRX ad cI cM μ) [OC q nv sv] (LA ad q s.heap.size) s H locs) (hdg : decode cc pc = .ok (.putfield 13, 3))
    (kk : ∀ (H1 : Heap) (locs1 : List Loc), MW D (TRX ad cI cM μ) [OC q v sv] (LA ad q s.heap.size) s H1 locs1 → W p l e R s m args below meth c H1 locs1 cells slots Q (F0 m (pc + 3) ls rest)) : W p l e R s m args below meth c H locs cells slots Q (F0 m pc ls (.long v :: .ref q :: rest)) := by
  refine va_putN (ty := .long) hx hb ht in_9 tyX10 tyX10_ok nmX10 hown hK hw.1 hw.2.1 hw.2.2.1 ((TRX ad cI cM μ).length + 0) (NAT rfl) cl_9 0 (by decide) (nwu_581 hN) (fun _ h => h) rfl (by decide +kernel) rfl rfl (Nat.le_of_ble_eq_true rfl) hdg (fun H1 locs1 hP hD hS => kk H1 locs1 ?_)
  rw [set_r] at hP hD
  exact ⟨hP, hD, hS, hw.2.2.2⟩
theorem L_puts {r : Option Nat} (hx : p.tables.exec = Jvm.exec) (hb : c.code = cc) (ht : ∀ w ∈ W0, w.before args s = true) (hown : s.vm.findClass "LeastreaderLaw" = some m.cls) (hN : NW s) (hK : TK D cI cM s) (hw : MW D (TRX ad cI cM μ) [OC q nv sv] (LA ad q s.heap.size) s H locs) (hdg : decode cc pc = .ok (.putfield 87, 3))
    (kk : ∀ (H1 : Heap) (locs1 : List Loc), MW D (TRX ad cI cM μ) [OC q nv (va_rf r)] (LA ad q s.heap.size) s H1 locs1 → W p l e R s m args below meth c H1 locs1 cells slots Q (F0 m (pc + 3) ls rest)) : W p l e R s m args below meth c H locs cells slots Q (F0 m pc ls (va_rf r :: .ref q :: rest)) := by
  refine va_putN (ty := .object "java/lang/String") hx hb ht in_9 tyX10 tyX10_ok nmX10 hown hK hw.1 hw.2.1 hw.2.2.1 ((TRX ad cI cM μ).length + 0) (NAT rfl) cl_9 1 (by decide) (nwu_582 hN) (fun _ h => h) rfl (by decide +kernel) (by cases r <;> rfl) (by cases r <;> rfl) (Nat.le_of_ble_eq_true rfl) hdg (fun H1 locs1 hP hD hS => kk H1 locs1 ?_)
  rw [set_r] at hP hD
  exact ⟨hP, hD, hS, hw.2.2.2⟩
theorem L_met {l : Launch} {y : MethodName} {bytes : ByteArray} {maxL : Nat} {hh : List (Nat × Nat × Nat × Nat)} {h fc fn : Nat} {as : List Value} {D : va_G} {ad : Nat → Nat} {cI cM cB : ClassId} {sz : Nat} {μ : TMem} {q : Nat} {nv : Int64} {sv : Value} {PW : Int32 → TMem × Int64 × Value → Prop} (hy : plainName y.cls = true) (hsl : (lg_sl as).length ≤ maxL)
    (body : ∀ (p : Program) (e : Env) (s : State) (m : MethodId) (below : List Frame) (meth : Method) (c : Code) (Z : State → Prop) (ls : Array Slot), p.tables.exec = Jvm.exec → c.code = bytes → c.maxLocals = maxL → s.vm.findClass y.cls = some m.cls → (∀ w ∈ W0, w.before as.toArray s = true) → NW s → TK D cI cM s → SX ad s → JK D cB s → CN s → ZS (TA ad s.heap.size) s s.heap → NC s → c.exceptionTable.toList = tableOf hh → TW D ad cI cM s μ s.heap [] → va_at D CL (OC q nv sv) s.heap → (∀ k, k < 59 → q ≠ ad k) →
      (∀ (H : Heap) (locs : List Loc) (ls : Array Slot) (pc cells slots : Nat) (r : Int32) (μ1 : TMem) (nv1 : Int64) (sv1 : Value), MW D (TRX ad cI cM μ1) [OC q nv1 sv1] (LA ad q s.heap.size) s H locs → PW r (μ1, nv1, sv1) → cells ≤ fc → slots ≤ fn → decode bytes pc = .ok (.ireturn, 1) → W p l e (RX h fc fn) s m as.toArray below meth c H locs cells slots Z (F0 m pc ls [.int r])) → lv_has ls maxL (lv_args 0 as) →
      W p l e (RX h fc fn) s m as.toArray below meth c s.heap [] 0 0 Z (F0 m 0 ls [])) : LWm l y (.codeWith y bytes maxL (some .int) hh) h fc fn as D ad cI cM cB sz μ q nv sv PW := by
  refine vx_ofWH (cc := bytes) (maxL := maxL) (ret := some .int) (hh := hh) hy rfl ?_
  intro p e s m args below meth c s₁ B hml hv
  obtain ⟨rfl, ⟨⟨⟨hsz, hP, hK, hI, hN⟩, hX⟩, hJ, hC, hZ⟩, hO, hne, hNC⟩ := hv
  subst hsz
  have hts := atoms_spec B.pre
  have hlocks := B.notSynchronized
  have htab := vx_table (x := y) B (hts _ List.mem_cons_self)
  rw [lg_entry_eq]
  exact body p e s m below meth c _ _ B.exec B.bytes hml (findClass_of_methodNamed B.named) (fun w hw => hts w (List.mem_cons_of_mem _ hw)) hN hK hX hJ hC hZ hNC htab ⟨hP, hI, va_S.rf⟩ hO hne (fun H locs ls pc cells slots r μ1 nv1 sv1 hw hq hc hs hdg =>
      W.widen hc hs (vx_ret (W.zret B.exec B.bytes B.returns rfl (fun t ht9 hW => ⟨⟨r, (μ1, nv1, sv1), rfl, hq, by rw [ht9]; exact fun k x hk => hw.1 k x (by rw [List.getElem?_append_left (List.getElem?_eq_some_iff.mp hk).1]; exact hk), by rw [ht9]; exact hw.n (j := 0) rfl⟩, hw.2.2.1.F ht9⟩) hw.2.2.1.2.2 hdg hlocks))) (lv_entry as hsl)
end LLB
