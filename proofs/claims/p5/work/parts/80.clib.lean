section CLB
def CK (D : va_G) (cI cL cM : ClassId) (U : State) : Prop := va_K D CL [(cI, .int), (cL, .long), (cM, .object "Leastreader$Machine")] U
def CA (a sz : Nat) : Nat → Prop := fun q => q = a ∨ sz ≤ q
theorem CK.mk {D : va_G} {cI cL cM : ClassId} {U : State} (h : CK D cI cL cM U) : MK D cI cL U := va_K.sub h [0, 1] rfl
theorem CK.tk {D : va_G} {cI cL cM : ClassId} {U : State} (h : CK D cI cL cM U) : TK D cI cM U := va_K.sub h [0, 2] rfl
def CB (D : va_G) (cI cL cM : ClassId) (sz a : Nat) (e0 : va_E) : State → Prop := fun U => U.heap.size = sz ∧ va_P D CL [(a, e0)] U.heap ∧ CK D cI cL cM U ∧ NW U ∧ va_AO "Leastreader$Machine" U
def CMt (l : Launch) (y : MethodName) (cd : Cond) (h c n : Nat) (as : List Value) (D : va_G) (cI cL cM : ClassId) (sz a : Nat) (e0 : va_E) (L : (Nat → Nat) → va_W) : Prop := Met l y (cd :: W0) (RA h c n) (va_Pc as (CB D cI cL cM sz a e0)) (va_Qv (fun _ : Nat → Nat => True) (fun u t => va_P D CL (L u) t.heap ∧ va_D (CA a sz) (L u)) (CA a sz)) c n (CA a sz)
variable {p : Program} {l : Launch} {e : Env} {R : Room} {s : State} {m : MethodId} {args : Array Value} {below : List Frame} {meth : Method} {c : Code} {H : Heap} {locs : List Loc} {cells slots : Nat} {Q : State → Prop}
variable {cc : ByteArray} {pc : Nat} {ls : Array Slot} {rest : List Value} {D : va_G} {cI cL cM : ClassId} {N : va_W} {A : Nat → Prop}
theorem C_join (hw : MW D [] N A s H locs) {j a : Nat} {e0 e1 : va_E} {NL : va_W} (hj : N[j]? = some (a, e0)) {H1 : Heap} {locs1 : List Loc} (hk : ∀ q : Nat, q < H.size → ¬ CA a H.size q → H1[q]? = H[q]?) (hP : va_P D CL ((a, e1) :: NL) H1) (hD : va_D (CA a H.size) ((a, e1) :: NL)) (hS : va_S A s.heap H1 locs1) : MW D [] (N.set j (a, e1) ++ NL) A s H1 locs1 := by
  have hP0 : va_P D CL N H := hw.1
  have hD0 : va_D A N := hw.2.1
  have hjl := (List.getElem?_eq_some_iff.mp hj).1
  have big : ∀ (k : Nat) (q : Nat × va_E), NL[k]? = some q → H.size ≤ q.1 := fun k q hq => by
    rcases hD.2 (k + 1) q hq with z | z
    · have := hD.1 (k + 1) 0 q (a, e1) hq rfl z
      omega
    · exact z
  have small : ∀ (k : Nat) (q : Nat × va_E), (N.set j (a, e1))[k]? = some q → q.1 < H.size := fun k q hq => by
    by_cases hkj : j = k
    · subst hkj
      rw [List.getElem?_set_self hjl] at hq
      cases hq
      exact (hP0 j _ hj).lt
    · rw [List.getElem?_set_ne hkj] at hq
      exact (hP0 k q hq).lt
  refine ⟨show va_P D CL (N.set j (a, e1) ++ NL) H1 from va_P.app (fun k q hq => ?_) (va_Pt hP), show va_D A (N.set j (a, e1) ++ NL) from va_D.app (hD0.set hj) ⟨fun i i2 x y hx hy z => ?_, fun k q hq => hw.2.2.2 _ (Nat.le_trans hw.2.2.1.1 (big k q hq))⟩ (fun i i2 x y hx hy z => ?_), hS, hw.2.2.2⟩
  · by_cases hkj : j = k
    · subst hkj
      rw [List.getElem?_set_self hjl] at hq
      cases hq
      exact va_Ph hP
    · rw [List.getElem?_set_ne hkj] at hq
      refine (hP0 k q hq).kept (hk q.1 (hP0 k q hq).lt (fun z => ?_))
      rcases z with z | z
      · have := hD0.1 k j q (a, e0) hq hj z
        omega
      · exact absurd (hP0 k q hq).lt (Nat.not_lt.mpr z)
  · have := hD.1 (i + 1) (i2 + 1) x y hx hy z
    omega
  · have h1 := small i x hx
    have h2 := big i2 y hy
    omega
theorem C_call {mc ms : Nat} {st0 : List Value} {ar : Array Value} {j a : Nat} {e0 : va_E} {L : (Nat → Nat) → va_W} {e1 : (Nat → Nat) → va_E} {NL : (Nat → Nat) → va_W} (hL : ∀ u, L u = (a, e1 u) :: NL u) (hw : MW D [] N A s H locs) (hj : N[j]? = some (a, e0)) (hr : va_Run p l e R s m args below meth c H locs cells slots mc ms (F0 m pc ls st0) rest (va_Qv (fun _ : Nat → Nat => True) (fun u t => va_P D CL (L u) t.heap ∧ va_D (CA a H.size) (L u)) (CA a H.size) ar) (CA a H.size))
    (kk : ∀ (u : Nat → Nat) (H1 : Heap) (locs1 : List Loc), MW D [] (N.set j (a, e1 u) ++ NL u) A s H1 locs1 → W p l e R s m args below meth c H1 locs1 (cells + mc) (slots + ms) Q (F0 m (pc + 3) ls rest)) : W p l e R s m args below meth c H locs cells slots Q (F0 m pc ls st0) := by
  have hsub : ∀ q, CA a H.size q → A q := fun q z => z.elim (fun z => by rw [z]; exact (show va_D A N from hw.2.1).2 j _ hj) (fun z => hw.2.2.2 q (Nat.le_trans hw.2.2.1.1 z))
  refine va_callv hr hw.2.2.1 (fun q _ h => hsub q h) hsub (fun u t H1 locs1 ht _ _ hB _ hk hS => ?_)
  rw [hL u] at hB
  exact kk u H1 locs1 (C_join hw hj hk (by rw [← ht]; exact hB.1) hB.2 hS)
theorem CB.blind {as : List Value} {sz a : Nat} {e0 : va_E} : FrameBlind (va_Pc as (CB D cI cL cM sz a e0)) := fun z U g mk q => ⟨q.1, q.2.1, q.2.2.1, va_K.moved (u := U) (U := U.calling g mk z) (Vm.Alike.refl U.vm) q.2.2.2.1, NW.same (s := U) rfl q.2.2.2.2.1, va_AO.moved (u := U) (U := U.calling g mk z) (Vm.Alike.refl U.vm) q.2.2.2.2.2⟩
theorem CB.pre {as : List Value} {j a : Nat} {e0 : va_E} (hK : CK D cI cL cM s) (hN : NW s) (hO : va_AO "Leastreader$Machine" s) (hw : MW D [] N A s H locs) (hj : N[j]? = some (a, e0)) : ∀ U : State, U.heap = H → s.WarmedH U.vm → va_Pc as (CB D cI cL cM H.size a e0) as.toArray U := fun U hU hW => ⟨rfl, by rw [hU], by rw [hU]; exact va_P1 ((show va_P D CL N H from hw.1) j _ hj), va_K.moved hW.alike hK, NW.warm hW hN, va_AO.moved hW.alike hO⟩
theorem c_put (hx : p.tables.exec = Jvm.exec) (hb : c.code = cc) (ht : ∀ w ∈ W0, w.before args s = true) {own ref C : String} {T : u_T} {N0 ci index i j a : Nat} (hin : ∀ w ∈ u_ws C T N0, w ∈ W0) (ty0 : Nat → FieldType) (hty : ∀ k, k < N0 → parseFieldDescriptor (T k).2.2.1 = some (ty0 k)) (hnm : ∀ a, a < N0 → ∀ b, b < N0 → a ≠ b → (T a).2.1 ≠ (T b).2.1) (hown : s.vm.findClass own = some m.cls) (hK : CK D cI cL cM s) (hw : MW D [] N A s H locs) {fs : List Value} (he : N[j]? = some (a, .inr (ci, fs))) (hc : CL[ci]? = some (C, T, N0)) (hi : i < N0) (hlink : (Cond.fieldLink own index ref (T i).2.1 (T i).2.2.1).before args s = true) (hsame : ∀ x, s.fieldFound? (T i).1 (T i).2.1 (T i).2.2.1 = some x → s.fieldFound? ref (T i).2.1 (T i).2.2.1 = some x) (hfin : (T i).2.2.2 = false) {ty : FieldType} {v : Value} (hd : parseFieldDescriptor (T i).2.2.1 = some ty) (hn : narrow ty v = v) (hfit : fits ty v = true) (hl : i < fs.length) (hdg : decode cc pc = .ok (.putfield index, 3))
    (kk : ∀ (H1 : Heap) (locs1 : List Loc), MW D [] (N.set j (a, .inr (ci, fs.set i v))) A s H1 locs1 → W p l e R s m args below meth c H1 locs1 cells slots Q (F0 m (pc + 3) ls rest)) : W p l e R s m args below meth c H locs cells slots Q (F0 m pc ls (v :: .ref a :: rest)) :=
  va_put hx hb ht hin ty0 hty hnm hown hK (show va_P D CL N H from hw.1) (show va_D A N from hw.2.1) hw.2.2.1 j he hc i hi hlink hsame hfin hd hn hfit hl hdg (fun H1 locs1 hP hD hS => kk H1 locs1 ⟨hP, hD, hS, hw.2.2.2⟩)
theorem c_putF (hx : p.tables.exec = Jvm.exec) (hb : c.code = cc) (ht : ∀ w ∈ W0, w.before args s = true) {own ref C : String} {T : u_T} {N0 ci index i j a : Nat} (hin : ∀ w ∈ u_ws C T N0, w ∈ W0) (ty0 : Nat → FieldType) (hty : ∀ k, k < N0 → parseFieldDescriptor (T k).2.2.1 = some (ty0 k)) (hnm : ∀ a, a < N0 → ∀ b, b < N0 → a ≠ b → (T a).2.1 ≠ (T b).2.1) (hown : s.vm.findClass own = some m.cls) (hK : CK D cI cL cM s) (hw : MW D [] N A s H locs) {fs : List Value} (he : N[j]? = some (a, .inr (ci, fs))) (hc : CL[ci]? = some (C, T, N0)) (hi : i < N0) (hlink : (Cond.fieldLink own index ref (T i).2.1 (T i).2.2.1).before args s = true) (hsame : ∀ x, s.fieldFound? (T i).1 (T i).2.1 (T i).2.2.1 = some x → s.fieldFound? ref (T i).2.1 (T i).2.2.1 = some x) (hfin : (T i).2.2.2 = true) (hin2 : meth.name = "<init>") (hdecl : (T i).1 = own) {ty : FieldType} {v : Value} (hd : parseFieldDescriptor (T i).2.2.1 = some ty) (hn : narrow ty v = v) (hfit : fits ty v = true) (hl : i < fs.length) (hdg : decode cc pc = .ok (.putfield index, 3))
    (kk : ∀ (H1 : Heap) (locs1 : List Loc), MW D [] (N.set j (a, .inr (ci, fs.set i v))) A s H1 locs1 → W p l e R s m args below meth c H1 locs1 cells slots Q (F0 m (pc + 3) ls rest)) : W p l e R s m args below meth c H locs cells slots Q (F0 m pc ls (v :: .ref a :: rest)) :=
  va_putF hx hb ht hin ty0 hty hnm hown hK (show va_P D CL N H from hw.1) (show va_D A N from hw.2.1) hw.2.2.1 j he hc i hi hlink hsame hfin hin2 hdecl hd hn hfit hl hdg (fun H1 locs1 hP hD hS => kk H1 locs1 ⟨hP, hD, hS, hw.2.2.2⟩)
theorem c_get (hx : p.tables.exec = Jvm.exec) (hb : c.code = cc) (ht : ∀ w ∈ W0, w.before args s = true) {own ref C : String} {T : u_T} {N0 ci index i j a : Nat} (hin : ∀ w ∈ u_ws C T N0, w ∈ W0) (hown : s.vm.findClass own = some m.cls) (hK : CK D cI cL cM s) (hw : MW D [] N A s H locs) {fs : List Value} (he : N[j]? = some (a, .inr (ci, fs))) (hc : CL[ci]? = some (C, T, N0)) (hi : i < N0) (hlink : (Cond.fieldLink own index ref (T i).2.1 (T i).2.2.1).before args s = true) (hsame : ∀ x, s.fieldFound? (T i).1 (T i).2.1 (T i).2.2.1 = some x → s.fieldFound? ref (T i).2.1 (T i).2.2.1 = some x) {v : Value} (hv : fs[i]? = some v) (hdg : decode cc pc = .ok (.getfield index, 3))
    (kk : W p l e R s m args below meth c H locs cells slots Q (F0 m (pc + 3) ls (v :: rest))) : W p l e R s m args below meth c H locs cells slots Q (F0 m pc ls (.ref a :: rest)) :=
  va_get hx hb ht hin hown hK (show va_P D CL N H from hw.1) j he hc i hi hlink hsame hv hdg kk
theorem c_new (hx : p.tables.exec = Jvm.exec) (hb : c.code = cc) (ht : ∀ w ∈ W0, w.before args s = true) {own C : String} {T : u_T} {N0 ci index : Nat} (hin : ∀ w ∈ u_ws C T N0, w ∈ W0) (ty : Nat → FieldType) (hty : ∀ k, k < N0 → parseFieldDescriptor (T k).2.2.1 = some (ty k)) (hown : s.vm.findClass own = some m.cls) (hcl : (Cond.classLink own index C).before args s = true) (hinst : (Cond.instantiable C N0).before args s = true) (hini : (Cond.initialized C).before args s = true)
    (hK : CK D cI cL cM s) (hw : MW D [] N A s H locs) (hc : CL[ci]? = some (C, T, N0)) {fs : List Value} (hfs : ∀ j, j < N0 → defaultValue (ty j) = vp_V fs j) (hcells : cells + 1 ≤ R.cells) (hslots : slots + N0 ≤ R.slots) (hdg : decode cc pc = .ok (.new index, 3))
    (kk : ∀ (q : Nat) (H1 : Heap), MW D [] (N ++ [(q, .inr (ci, fs))]) A s H1 locs → W p l e R s m args below meth c H1 locs (cells + 1) (slots + N0) Q (F0 m (pc + 3) ls (.ref q :: rest))) : W p l e R s m args below meth c H locs cells slots Q (F0 m pc ls rest) :=
  va_new hx hb ht hin ty hty hown hcl hinst hini hK (show va_P D CL N H from hw.1) (show va_D A N from hw.2.1) hw.2.2.1 hw.2.2.2 hc hfs hcells hslots hdg (fun q H1 hP hD hS => kk q H1 ⟨hP, hD, hS, hw.2.2.2⟩)
theorem c_newM (hx : p.tables.exec = Jvm.exec) (hb : c.code = cc) {own : String} {index : Nat} (hown : s.vm.findClass own = some m.cls) (hclink : (Cond.classLink own index "Leastreader$Machine").before args s = true) (hO : va_AO "Leastreader$Machine" s) (hK : CK D cI cL cM s) (hw : MW D [] N A s H locs) (hcells : cells + 1 ≤ R.cells) (hslots : slots + 4 ≤ R.slots) (hdg : decode cc pc = .ok (.anewarray index, 3))
    (kk : ∀ (q : Nat) (H1 : Heap), MW D [] (N ++ [(q, .inl (cM, 4, .inr (.inr (.inr (.inr (fun _ => none))))))]) A s H1 locs → W p l e R s m args below meth c H1 locs (cells + 1) (slots + 4) Q (F0 m (pc + 3) ls (.ref q :: rest))) : W p l e R s m args below meth c H locs cells slots Q (F0 m pc ls (.int (4 : Int32) :: rest)) := by
  refine va_newq hx hb hown hclink hO hK (show va_P D CL N H from hw.1) (show va_D A N from hw.2.1) hw.2.2.1 hw.2.2.2 (N' := 4) (by decide) (by decide) (by decide) hcells hslots hdg (fun q cA H1 hK1 hP hD hS => ?_)
  have e1 : cA = cM := by
    obtain ⟨_, _, _, _, _, h1⟩ := (hK1.2 3 _ rfl).2
    obtain ⟨_, _, _, _, _, h2⟩ := (hK1.2 2 _ rfl).2
    exact Option.some.inj (h1.symm.trans h2)
  rw [e1] at hP hD
  exact kk q H1 ⟨hP, hD, hS, hw.2.2.2⟩
theorem c_astM (hx : p.tables.exec = Jvm.exec) (hb : c.code = cc) (hK : CK D cI cL cM s) (hw : MW D [] N A s H locs) {j jv a v : Nat} {vs : List Value} {f : Nat → Option Nat} (ha : N[j]? = some (a, .inl (cM, 4, .inr (.inr (.inr (.inr f)))))) (hv : N[jv]? = some (v, .inr (2, vs))) {i : Int32} (hin : vp_in i 4) (hdg : decode cc pc = .ok (.aastore, 1))
    (kk : ∀ (H1 : Heap) (locs1 : List Loc), MW D [] (N.set j (a, .inl (cM, 4, .inr (.inr (.inr (.inr (va_up f i.toNatClampNeg (some v)))))))) A s H1 locs1 → W p l e R s m args below meth c H1 locs1 cells slots Q (F0 m (pc + 1) ls rest)) : W p l e R s m args below meth c H locs cells slots Q (F0 m pc ls (.ref v :: .int i :: .ref a :: rest)) :=
  va_astq hx hb hK (show va_P D CL N H from hw.1) (show va_D A N from hw.2.1) hw.2.2.1 j 2 jv 2 ha rfl hv cl_2 hin hdg (fun H1 locs1 hP hD hS => kk H1 locs1 ⟨hP, hD, hS, hw.2.2.2⟩)
theorem c_lenM (hx : p.tables.exec = Jvm.exec) (hb : c.code = cc) (hK : CK D cI cL cM s) (hw : MW D [] N A s H locs) {j a : Nat} {f : Nat → Option Nat} (ha : N[j]? = some (a, .inl (cM, 4, .inr (.inr (.inr (.inr f)))))) (hdg : decode cc pc = .ok (.arraylength, 1))
    (kk : W p l e R s m args below meth c H locs cells slots Q (F0 m (pc + 1) ls (.int (4 : Int32) :: rest))) : W p l e R s m args below meth c H locs cells slots Q (F0 m pc ls (.ref a :: rest)) :=
  va_alen hx hb hK (show va_P D CL N H from hw.1) j 2 (x := (4, .inr (.inr (.inr (.inr f))))) ha rfl rfl hdg kk
theorem C_met {l : Launch} {y : MethodName} {bytes : ByteArray} {maxL : Nat} {h fc fn : Nat} {as : List Value} {D : va_G} {cI cL cM : ClassId} {sz a : Nat} {e0 : va_E} {L : (Nat → Nat) → va_W} (hy : plainName y.cls = true) (hsl : (lg_sl as).length ≤ maxL)
    (body : ∀ (p : Program) (e : Env) (s : State) (m : MethodId) (below : List Frame) (meth : Method) (c : Code) (Z : State → Prop) (ls : Array Slot), p.tables.exec = Jvm.exec → c.code = bytes → c.maxLocals = maxL → s.vm.findClass y.cls = some m.cls → meth.name = y.name → (∀ w ∈ W0, w.before as.toArray s = true) → CK D cI cL cM s → NW s → va_AO "Leastreader$Machine" s → MW D [] [(a, e0)] (CA a s.heap.size) s s.heap [] →
      (∀ (H : Heap) (locs : List Loc) (ls : Array Slot) (pc cells slots : Nat) (N : va_W) (u : Nat → Nat), MW D [] N (CA a s.heap.size) s H locs → N = L u → cells ≤ fc → slots ≤ fn → decode bytes pc = .ok (.return_, 1) → W p l e (RA h fc fn) s m as.toArray below meth c H locs cells slots Z (F0 m pc ls [])) → lv_has ls maxL (lv_args 0 as) →
      W p l e (RA h fc fn) s m as.toArray below meth c s.heap [] 0 0 Z (F0 m 0 ls [])) : CMt l y (.code y bytes maxL none) h fc fn as D cI cL cM sz a e0 L := by
  refine Met.ofW (cc := bytes) (maxL := maxL) (ret := none) hy rfl ?_
  intro p e s m args below meth c s₁ B hml hv
  obtain ⟨rfl, hsz, hP, hK, hN, hO⟩ := hv
  subst hsz
  have hts := atoms_spec B.pre
  have hlocks := B.notSynchronized
  rw [lg_entry_eq]
  exact body p e s m below meth c _ _ B.exec B.bytes hml (findClass_of_methodNamed B.named) (name_of_methodNamed B.named B.method).1 (fun w hw => hts w (List.mem_cons_of_mem _ hw)) hK hN hO ⟨hP, ⟨fun i j x y hx hy e => by
      have h1 := (List.getElem?_eq_some_iff.mp hx).1
      have h2 := (List.getElem?_eq_some_iff.mp hy).1
      simp at h1 h2
      omega, fun k x hx => by
      have h1 := (List.getElem?_eq_some_iff.mp hx).1
      have h2 : k = 0 := by simp at h1; omega
      subst h2
      cases hx
      exact Or.inl rfl⟩, va_S.rf, fun q h => Or.inr h⟩ (fun H locs ls pc cells slots N u hw he hc hs hdg => by
      subst he
      exact W.widen hc hs (W.vret B.exec B.bytes B.returns (fun t ht9 hW => ⟨⟨u, rfl, trivial, by rw [ht9]; exact hw.1, hw.2.1⟩, hw.2.2.1.F ht9⟩) hw.2.2.1.2.2 hdg hlocks)) (lv_entry as hsl)
end CLB
