section TSL
def TBS (D : va_G) (ad : Nat → Nat) (cI cM cB : ClassId) (sz : Nat) (μ : TMem) : State → Prop := fun U => TB D ad cI cM sz μ U ∧ JK D cB U ∧ CN U ∧ ZS (TA ad sz) U U.heap ∧ SR U
/-- a method of the class's that makes a text: the tree stays as it is -/
def TS (l : Launch) (y : MethodName) (cd : Cond) (h c n : Nat) (as : List Value) (D : va_G) (ad : Nat → Nat) (cI cM cB : ClassId) (sz : Nat) (μ : TMem) : Prop := Met l y (cd :: W0) (RA h c n) (va_Pc as (TBS D ad cI cM cB sz μ)) (va_Qr (fun _ : Unit => True) (fun _ _ t => TE D ad cI cM μ t) (TA ad sz)) c n (TA ad sz)
variable {p : Program} {l : Launch} {e : Env} {R : Room} {s : State} {m : MethodId} {args : Array Value} {below : List Frame} {meth : Method} {c : Code} {H : Heap} {locs : List Loc} {cells slots : Nat} {Q : State → Prop}
variable {cc : ByteArray} {pc : Nat} {ls : Array Slot} {rest : List Value} {D : va_G} {ad : Nat → Nat} {cI cM cB : ClassId} {μ : TMem} {N RG : va_W} {A : Nat → Prop}
theorem TBS.blind {as : List Value} {sz : Nat} : FrameBlind (va_Pc as (TBS D ad cI cM cB sz μ)) := fun z U g mk q => by
  obtain ⟨q0, q1, q2, q3, q4, q5⟩ := q
  exact ⟨q0, (TB.blind z U g mk ⟨q0, q1⟩).2, va_K.moved (u := U) (U := U.calling g mk z) (Vm.Alike.refl U.vm) q2, CN.same (u := U) rfl q3, ZS.moved (u := U) (U := U.calling g mk z) (Vm.Alike.refl U.vm) q4, SR.same (s := U) rfl q5⟩
theorem TBS.pre {as : List Value} (hT : TK D cI cM s) (hN : NW s) (hJ : JK D cB s) (hC : CN s) (hZ : ZS (TA ad s.heap.size) s s.heap) (hR : SR s) (hw : TW D ad cI cM s μ H locs) : ∀ U : State, U.heap = H → s.WarmedH U.vm → va_Pc as (TBS D ad cI cM cB H.size μ) as.toArray U := fun U hU hW => by
  refine ⟨rfl, (TB.pre (as := as) hT hN hw U hU hW).2, va_K.moved hW.alike hJ, hC.warm hW, ?_, SR.warm hW hR⟩
  rw [hU]
  exact ((hZ.kept hw.2.2.2.1).moved hW.alike).narrow (TA.up hw.2.2.1)
theorem MT.tw (hI : TI ad) (hw : MW D (TRX ad cI cM μ) N (TA ad s.heap.size) s H locs) : TW D ad cI cM s μ H locs := ⟨fun k q hq => hw.1 k q (by rw [List.getElem?_append_left (List.getElem?_eq_some_iff.mp hq).1]; exact hq), hI, hw.2.2.1⟩
theorem MT.of (hw : TW D ad cI cM s μ H locs) : MW D (TRX ad cI cM μ) [] (TA ad s.heap.size) s H locs := ⟨by rw [List.append_nil]; exact hw.1, by rw [List.append_nil]; exact hw.2.1.D, hw.2.2, fun q h => Or.inr h⟩
theorem MT.keep (hI : TI ad) (hw : MW D (TRX ad cI cM μ) N (TA ad s.heap.size) s H locs) {μ1 : TMem} {H1 : Heap} {locs1 : List Loc} (hk : ∀ q : Nat, q < H.size → ¬ TA ad H.size q → H1[q]? = H[q]?) (hP : va_P D CL (TRX ad cI cM μ1) H1) (hS : va_S (TA ad s.heap.size) s.heap H1 locs1) : MW D (TRX ad cI cM μ1) N (TA ad s.heap.size) s H1 locs1 := by
  have out : ∀ (k : Nat) (q : Nat × va_E), N[k]? = some q → ∀ i, i < 59 → q.1 ≠ ad i := fun k q hq i hi e => by
    have hx : (TRX ad cI cM μ ++ N)[i]? = some (ad i, ent ad cI cM (μ i) i) := by
      rw [List.getElem?_append_left (by simp [TRX]; exact hi)]
      exact TRX_at hi
    have := hw.2.1.1 _ i q _ (NAT (RG := TRX ad cI cM μ) hq) hx e
    simp [TRX] at this
    omega
  refine ⟨hP.app (fun k q hq => ?_), va_D.app hI.D ⟨fun i j x y hx hy e => ?_, fun k q hq => hw.2.1.2 _ q (NAT (RG := TRX ad cI cM μ) hq)⟩ (fun i j x y hx hy e => ?_), hS, hw.2.2.2⟩
  · have ha := hw.1 _ _ (NAT (RG := TRX ad cI cM μ) hq)
    refine ha.kept (hk q.1 ha.lt (fun z => ?_))
    rcases z with ⟨i, hi, e⟩ | z
    · exact out k q hq i hi e
    · exact absurd ha.lt (Nat.not_lt.mpr z)
  · have := hw.2.1.1 _ _ x y (NAT (RG := TRX ad cI cM μ) hx) (NAT (RG := TRX ad cI cM μ) hy) e
    omega
  · obtain ⟨hi, rfl⟩ := TRX_of hx
    exact out j y hy i hi e.symm
theorem MT_calli {Q1 : Int32 → TMem → Prop} {st0 : List Value} {a : Array Value} (hI : TI ad) (hw : MW D (TRX ad cI cM μ) N (TA ad s.heap.size) s H locs) (hr : va_Run p l e R s m args below meth c H locs cells slots 0 0 (F0 m pc ls st0) rest (va_Qi (fun r μ1 => μ1 = μ ∧ Q1 r μ1) (TE D ad cI cM) (TA ad H.size) a) (TA ad H.size))
    (kk : ∀ (r : Int32) (H1 : Heap) (locs1 : List Loc), Q1 r μ → MW D (TRX ad cI cM μ) N (TA ad s.heap.size) s H1 locs1 → W p l e R s m args below meth c H1 locs1 cells slots Q (F0 m (pc + 3) ls (.int r :: rest))) : W p l e R s m args below meth c H locs cells slots Q (F0 m pc ls st0) :=
  va_calli hr hw.2.2.1 (fun q _ h => TA.up hw.2.2.1.1 q h) (fun q h => TA.up hw.2.2.1.1 q h) (fun r u t H1 locs1 ht _ hq hB _ hk hS => by
    obtain ⟨rfl, hq⟩ := hq
    exact kk r H1 locs1 hq (MT.keep hI hw hk (by rw [← ht]; exact hB) hS))
theorem TS_callr {mc ms : Nat} {st0 : List Value} {a : Array Value} (hw : TW D ad cI cM s μ H locs) (hr : va_Run p l e R s m args below meth c H locs cells slots mc ms (F0 m pc ls st0) rest (va_Qr (fun _ : Unit => True) (fun _ _ t => TE D ad cI cM μ t) (TA ad H.size) a) (TA ad H.size))
    (kk : ∀ (ra : Nat) (H1 : Heap) (locs1 : List Loc), TW D ad cI cM s μ H1 locs1 → W p l e R s m args below meth c H1 locs1 (cells + mc) (slots + ms) Q (F0 m (pc + 3) ls (.ref ra :: rest))) : W p l e R s m args below meth c H locs cells slots Q (F0 m pc ls st0) :=
  va_callr hr hw.2.2 (fun q _ h => TA.up hw.2.2.1 q h) (fun q h => TA.up hw.2.2.1 q h) (fun u ra t H1 locs1 ht _ hq hB _ hk hS => kk ra H1 locs1 ⟨by rw [← ht]; exact hB, hw.2.1, hS⟩)
theorem n_newO {c0 : Code} {tys : List (ClassId × FieldType)} (hx : p.tables.exec = Jvm.exec) (hb : c0.code = cc) (ht : ∀ w ∈ W0, w.before args s = true) {own C0 : String} {T : u_T} {N0 ci index : Nat} (hin : ∀ w ∈ u_ws C0 T N0, w ∈ W0) (ty : Nat → FieldType) (hty : ∀ k, k < N0 → parseFieldDescriptor (T k).2.2.1 = some (ty k)) (hown : s.vm.findClass own = some m.cls) (hcl : (Cond.classLink own index C0).before args s = true) (hinst : (Cond.instantiable C0 N0).before args s = true) (hini : (Cond.initialized C0).before args s = true)
    (hK : va_K D CL tys s) (hw : MW D RG N A s H locs) (hc : CL[ci]? = some (C0, T, N0)) {fs : List Value} (hfs : ∀ j, j < N0 → defaultValue (ty j) = vp_V fs j) (hcells : cells + 1 ≤ R.cells) (hslots : slots + N0 ≤ R.slots) (hdg : decode cc pc = .ok (.new index, 3))
    (kk : ∀ (q : Nat) (H1 : Heap), MW D RG (N ++ [(q, .inr (ci, fs))]) A s H1 locs → W p l e R s m args below meth c0 H1 locs (cells + 1) (slots + N0) Q (F0 m (pc + 3) ls (.ref q :: rest))) : W p l e R s m args below meth c0 H locs cells slots Q (F0 m pc ls rest) :=
  va_new hx hb ht hin ty hty hown hcl hinst hini hK hw.1 hw.2.1 hw.2.2.1 hw.2.2.2 hc hfs hcells hslots hdg (fun q H1 hP hD hS => kk q H1 ⟨by rw [← List.append_assoc]; exact hP, by rw [← List.append_assoc]; exact hD, hS, hw.2.2.2⟩)
theorem TS_met {l : Launch} {y : MethodName} {bytes : ByteArray} {maxL : Nat} {cn : String} {h fc fn : Nat} {as : List Value} {D : va_G} {ad : Nat → Nat} {cI cM cB : ClassId} {sz : Nat} {μ : TMem} (hy : plainName y.cls = true) (hsl : (lg_sl as).length ≤ maxL)
    (body : ∀ (p : Program) (e : Env) (s : State) (m : MethodId) (below : List Frame) (meth : Method) (c : Code) (Z : State → Prop) (ls : Array Slot), p.tables.exec = Jvm.exec → c.code = bytes → c.maxLocals = maxL → s.vm.findClass y.cls = some m.cls → (∀ w ∈ W0, w.before as.toArray s = true) → NW s → TK D cI cM s → TI ad → JK D cB s → CN s → ZS (TA ad s.heap.size) s s.heap → SR s → MW D (TRX ad cI cM μ) [] (TA ad s.heap.size) s s.heap [] →
      (∀ (H : Heap) (locs : List Loc) (ls : Array Slot) (pc cells slots : Nat) (N : va_W) (a : Nat), MW D (TRX ad cI cM μ) N (TA ad s.heap.size) s H locs → cells ≤ fc → slots ≤ fn → decode bytes pc = .ok (.areturn, 1) → W p l e (RA h fc fn) s m as.toArray below meth c H locs cells slots Z (F0 m pc ls [.ref a])) → lv_has ls maxL (lv_args 0 as) →
      W p l e (RA h fc fn) s m as.toArray below meth c s.heap [] 0 0 Z (F0 m 0 ls [])) : TS l y (.code y bytes maxL (some (.object cn))) h fc fn as D ad cI cM cB sz μ := by
  refine Met.ofW (cc := bytes) (maxL := maxL) (ret := some (.object cn)) hy rfl ?_
  intro p e s m args below meth c s₁ B hml hv
  obtain ⟨rfl, ⟨hsz, hP, hK, hI, hN⟩, hJ, hC, hZ, hR⟩ := hv
  subst hsz
  have hts := atoms_spec B.pre
  have hlocks := B.notSynchronized
  rw [lg_entry_eq]
  exact body p e s m below meth c _ _ B.exec B.bytes hml (findClass_of_methodNamed B.named) (fun w hw => hts w (List.mem_cons_of_mem _ hw)) hN hK hI hJ hC hZ hR (MT.of ⟨hP, hI, va_S.rf⟩) (fun H locs ls pc cells slots N a hw hc hs hdg =>
      W.widen hc hs (W.aret B.exec B.bytes B.returns (Or.inl ⟨_, rfl⟩) (Or.inr ⟨_, rfl⟩) (fun t ht9 hW => ⟨⟨(), a, rfl, trivial, by show va_P D CL (TRX ad cI cM μ) t.heap; rw [ht9]; exact (MT.tw hI hw).1⟩, hw.2.2.1.F ht9⟩) hw.2.2.1.2.2 hdg hlocks)) (lv_entry as hsl)
/-- a text in the making: m room, n letters, what was made so far -/
def BS (m n cv sv : Nat) : Prop := n ≤ m ∧ 16 ≤ m ∧ m ≤ 2 * n + 16 ∧ 16 * cv ≤ m + 16 ∧ sv ≤ 2 * m
theorem BS.add {m n cv sv : Nat} (w : Nat) (h : BS m n cv sv) : BS (cap (n + w) m) (n + w) (cv + gr (n + w) m) (sv + gs (n + w) m) := by
  obtain ⟨h1, h2, h3, h4, h5⟩ := h
  unfold BS gr gs cap
  split
  · refine ⟨by omega, by omega, by omega, by omega, by omega⟩
  · split <;> refine ⟨by omega, by omega, by omega, by omega, by omega⟩
end TSL
