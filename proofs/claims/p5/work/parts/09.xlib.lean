section XLB
def SX (ad : Nat → Nat) (U : State) : Prop := vx_Zq Bundle.tN "UNASSIGNED_STACK" Bundle.steD (TA ad U.heap.size) U U.heap ∧ vx_Zq Bundle.tN "SUPPRESSED_SENTINEL" Bundle.listD (TA ad U.heap.size) U U.heap ∧ XN U ∧ SR U
theorem SX.pre {D : va_G} {ad : Nat → Nat} {cI cM : ClassId} {s : State} {μ : TMem} {H : Heap} {locs : List Loc} (h : SX ad s) (hw : TW D ad cI cM s μ H locs) {U : State} (hU : U.heap = H) (hW : s.WarmedH U.vm) : SX ad U := by
  obtain ⟨h1, h2, h3, h4⟩ := h
  refine ⟨?_, ?_, XN.warm hW h3, SR.warm hW h4⟩
  · rw [hU]
    exact vx_Zq.moved hW.alike ((h1.kept (H1 := H) (fun a ha hn => hw.2.2.2.1 a ha hn)).narrow (fun q z => TA.up hw.2.2.1 q z))
  · rw [hU]
    exact vx_Zq.moved hW.alike ((h2.kept (H1 := H) (fun a ha hn => hw.2.2.2.1 a ha hn)).narrow (fun q z => TA.up hw.2.2.1 q z))
def TBX (D : va_G) (ad : Nat → Nat) (cI cM : ClassId) (sz : Nat) (μ : TMem) : State → Prop := fun U => TB D ad cI cM sz μ U ∧ SX ad U
def TEX (D : va_G) (ad : Nat → Nat) (cI cM : ClassId) (X : String → TMem → Prop) : String → TMem → State → Prop := fun E μ1 t => X E μ1 ∧ TE D ad cI cM μ1 t
abbrev RX (h c n : Nat) : Room := { frames := h + 8, cells := c, slots := n, locals := 40 * h + 400 }
variable {p : Program} {l : Launch} {e : Env} {R : Room} {s : State} {m : MethodId} {args : Array Value} {below : List Frame} {meth : Method} {c : Code} {H : Heap} {locs : List Loc} {cells slots : Nat} {Q : State → Prop}
variable {cc : ByteArray} {pc : Nat} {ls : Array Slot} {rest : List Value} {D : va_G} {ad : Nat → Nat} {cI cM : ClassId} {μ : TMem} {k : Nat}
theorem TBX.blind {as : List Value} {sz : Nat} : FrameBlind (va_Pc as (TBX D ad cI cM sz μ)) := fun a U g mk q => by
  obtain ⟨q0, q1, h1, h2, h3, h4⟩ := q
  refine ⟨q0, (TB.blind a U g mk ⟨q0, q1⟩).2, ?_, ?_, XN.same (s := U) rfl h3, SR.same (s := U) rfl h4⟩
  · exact vx_Zq.moved (u := U) (U := U.calling g mk a) (Vm.Alike.refl U.vm) h1
  · exact vx_Zq.moved (u := U) (U := U.calling g mk a) (Vm.Alike.refl U.vm) h2
theorem TBX.pre {as : List Value} (hK : TK D cI cM s) (hN : NW s) (hX : SX ad s) (hw : TW D ad cI cM s μ H locs) : ∀ U : State, U.heap = H → s.WarmedH U.vm → va_Pc as (TBX D ad cI cM H.size μ) as.toArray U := fun U hU hW => ⟨rfl, (TB.pre (as := as) hK hN hw U hU hW).2, hX.pre hw hU hW⟩
theorem va_P_grow {ws : va_W} {H1 : Heap} (h : va_P D CL ws H) (ho : ∀ q : Nat, q < H.size → H1[q]? = H[q]?) : va_P D CL ws H1 := h.kept (fun k q hk => ho q.1 (h k q hk).lt)
def XMi (l : Launch) (y : MethodName) (cd : Cond) (h c n : Nat) (as : List Value) (D : va_G) (ad : Nat → Nat) (cI cM : ClassId) (sz : Nat) (μ : TMem) (Q : Int32 → TMem → Prop) (X : String → TMem → Prop) : Prop := vx_Met l y (cd :: W0) (RX h c n) (va_Pc as (TBX D ad cI cM sz μ)) (va_Qi Q (TE D ad cI cM) (TA ad sz)) (vx_X (fun _ : TMem => True) (TEX D ad cI cM X) (TA ad sz)) c n (TA ad sz)
def XMl (l : Launch) (y : MethodName) (cd : Cond) (h c n : Nat) (as : List Value) (D : va_G) (ad : Nat → Nat) (cI cM : ClassId) (sz : Nat) (μ : TMem) (Q : Int64 → TMem → Prop) (X : String → TMem → Prop) : Prop := vx_Met l y (cd :: W0) (RX h c n) (va_Pc as (TBX D ad cI cM sz μ)) (va_Ql Q (TE D ad cI cM) (TA ad sz)) (vx_X (fun _ : TMem => True) (TEX D ad cI cM X) (TA ad sz)) c n (TA ad sz)
def XMv (l : Launch) (y : MethodName) (cd : Cond) (h c n : Nat) (as : List Value) (D : va_G) (ad : Nat → Nat) (cI cM : ClassId) (sz : Nat) (μ : TMem) (Q : TMem → Prop) (X : String → TMem → Prop) : Prop := vx_Met l y (cd :: W0) (RX h c n) (va_Pc as (TBX D ad cI cM sz μ)) (va_Qv Q (TE D ad cI cM) (TA ad sz)) (vx_X (fun _ : TMem => True) (TEX D ad cI cM X) (TA ad sz)) c n (TA ad sz)
/-- an object of the tree comes back: its place -/
def XMo (l : Launch) (y : MethodName) (cd : Cond) (h c n : Nat) (as : List Value) (D : va_G) (ad : Nat → Nat) (cI cM : ClassId) (sz : Nat) (μ : TMem) (Q : Nat → TMem → Prop) (X : String → TMem → Prop) : Prop := vx_Met l y (cd :: W0) (RX h c n) (va_Pc as (TBX D ad cI cM sz μ)) (va_Qq (fun (r : Option Nat) (u : Nat × TMem) => r = some (ad u.1) ∧ kd u.1 = 2 ∧ Q u.1 u.2) (fun u t => TE D ad cI cM u.2 t) (TA ad sz)) (vx_X (fun _ : TMem => True) (TEX D ad cI cM X) (TA ad sz)) c n (TA ad sz)
/-- a text comes back, or nothing -/
def XMs (l : Launch) (y : MethodName) (cd : Cond) (h c n : Nat) (as : List Value) (D : va_G) (ad : Nat → Nat) (cI cM : ClassId) (sz : Nat) (μ : TMem) (Q : TMem → Prop) (X : String → TMem → Prop) : Prop := vx_Met l y (cd :: W0) (RX h c n) (va_Pc as (TBX D ad cI cM sz μ)) (va_Qq (fun (_ : Option Nat) (u : TMem) => Q u) (TE D ad cI cM) (TA ad sz)) (vx_X (fun _ : TMem => True) (TEX D ad cI cM X) (TA ad sz)) c n (TA ad sz)
theorem vx_callq2 {S SX : Type} {post : Option Nat → S → Prop} {px : SX → Prop} {B : S → State → Prop} {BX : String → SX → State → Prop} {AX A0 A1 : Nat → Prop} {st0 : List Value} {a : Array Value} {H0 : Heap} {mc ms : Nat} {free : Addr → Prop} (hr : vx_Run p l e R s m args below meth c H locs cells slots mc ms (F0 m pc ls st0) rest (va_Qq post B A1 a) (vx_X px BX AX) free) (hS : va_S A0 H0 H locs) (hA : ∀ q, q < H.size → A1 q → A0 q) (hf : ∀ q, free q → A0 q) (hAX : ∀ q, q < H.size → AX q → A0 q)
    (kx : ∀ (E : String) (ce : Cell) (q9 : Addr) (u : SX) (t : State) (H1 : Heap) (locs1 : List Loc), t.heap = H1 → s.vm.Alike t.vm → px u → BX E u t → H.size ≤ H1.size → (∀ q : Nat, q < H.size → ¬ AX q → H1[q]? = H[q]?) → va_S A0 H0 H1 locs1 → H1[q9]? = some ce → ce.vm = .none → s.vm.findClass E = some ce.cls → vx_W p l e R s m args below meth c H1 locs1 (cells + mc) (slots + ms) Q (F0 m pc ls rest) q9)
    (kk : ∀ (r : Option Nat) (u : S) (t : State) (H1 : Heap) (locs1 : List Loc), t.heap = H1 → s.vm.Alike t.vm → post r u → B u t → H.size ≤ H1.size → (∀ q : Nat, q < H.size → ¬ A1 q → H1[q]? = H[q]?) → va_S A0 H0 H1 locs1 → W p l e R s m args below meth c H1 locs1 (cells + mc) (slots + ms) Q (F0 m (pc + 3) ls (va_rf r :: rest))) : W p l e R s m args below meth c H locs cells slots Q (F0 m pc ls st0) := by
  intro T hT X
  rcases hr T hT X with ⟨v, st₀, t, T', L, h0, X', hL, e1, e2, ⟨⟨r, u, hv, hp, hb⟩, hF⟩, st⟩ | ⟨q, st₀, t, T', L, E, ce, h0, X', hL, e1, e2, ⟨u, hp, hb, hF⟩, hce, hcv, hcl, st⟩
  · cases hv
    obtain ⟨k1, k2, k3⟩ := vx_keep h0 e1 hS hA hf hL hF
    obtain ⟨t2, a1, b1⟩ := kk r u t T'.heap (locs ++ L) e1.symm (by rw [← e2]; exact X'.warmed.alike) hp hb k1 k2 k3 T' rfl X'
    exact ⟨t2, st t2 a1, b1⟩
  · obtain ⟨k1, k2, k3⟩ := vx_keep h0 e1 hS hAX hf hL hF
    obtain ⟨t2, a1, b1⟩ := kx E ce q u t T'.heap (locs ++ L) e1.symm (by rw [← e2]; exact X'.warmed.alike) hp hb k1 k2 k3 (by rw [e1]; exact hce) hcv hcl T' rfl X'
    exact ⟨t2, st.trans a1, b1⟩
variable {X : String → TMem → Prop} {Qc : Array Value → State → Outcome → State → Prop} {fc fn c1 n1 mc ms : Nat}
theorem X_calli {Q1 : Int32 → TMem → Prop} {st0 : List Value} {a : Array Value} (hw : TW D ad cI cM s μ H locs) (hout : ∀ x ∈ c.exceptionTable.toList, False) (hlocks : meth.locks = false) (e1 : cells + mc = c1) (e2 : slots + ms = n1) (g1 : c1 ≤ fc) (g2 : n1 ≤ fn) (hr : vx_Run p l e R s m args below meth c H locs cells slots mc ms (F0 m pc ls st0) rest (va_Qi Q1 (TE D ad cI cM) (TA ad H.size) a) (vx_X (fun _ : TMem => True) (TEX D ad cI cM X) (TA ad H.size)) (TA ad H.size))
    (kk : ∀ (r : Int32) (μ1 : TMem) (H1 : Heap) (locs1 : List Loc), Q1 r μ1 → TW D ad cI cM s μ1 H1 locs1 → W p l e R s m args below meth c H1 locs1 c1 n1 (vx_MQ below Qc (vx_X (fun _ : TMem => True) (TEX D ad cI cM X) (TA ad s.heap.size)) args s fc fn (TA ad s.heap.size)) (F0 m (pc + 3) ls (.int r :: rest))) : W p l e R s m args below meth c H locs cells slots (vx_MQ below Qc (vx_X (fun _ : TMem => True) (TEX D ad cI cM X) (TA ad s.heap.size)) args s fc fn (TA ad s.heap.size)) (F0 m pc ls st0) :=
  vx_calli hr hw.2.2 (fun q _ h => TA.up hw.2.2.1 q h) (fun q h => TA.up hw.2.2.1 q h) (fun q _ h => TA.up hw.2.2.1 q h)
    (fun E ce q9 u t H1 locs1 ht _ _ hB _ _ hS h1 h2 h3 => vx_out (fun x hx => (hout x hx).elim) hlocks h1 h2 h3 (fun t9 ht9 _ => ⟨u, trivial, ⟨hB.1, by rw [TE, ht9, ← ht]; exact hB.2⟩, hS.F ht9⟩) hS.2.2 (by omega) (by omega))
    (fun r u t H1 locs1 ht _ hq hB _ _ hS => e1 ▸ e2 ▸ kk r u H1 locs1 hq ⟨by rw [← ht]; exact hB, hw.2.1, hS⟩)
theorem X_calll {Q1 : Int64 → TMem → Prop} {st0 : List Value} {a : Array Value} (hw : TW D ad cI cM s μ H locs) (hout : ∀ x ∈ c.exceptionTable.toList, False) (hlocks : meth.locks = false) (e1 : cells + mc = c1) (e2 : slots + ms = n1) (g1 : c1 ≤ fc) (g2 : n1 ≤ fn) (hr : vx_Run p l e R s m args below meth c H locs cells slots mc ms (F0 m pc ls st0) rest (va_Ql Q1 (TE D ad cI cM) (TA ad H.size) a) (vx_X (fun _ : TMem => True) (TEX D ad cI cM X) (TA ad H.size)) (TA ad H.size))
    (kk : ∀ (r : Int64) (μ1 : TMem) (H1 : Heap) (locs1 : List Loc), Q1 r μ1 → TW D ad cI cM s μ1 H1 locs1 → W p l e R s m args below meth c H1 locs1 c1 n1 (vx_MQ below Qc (vx_X (fun _ : TMem => True) (TEX D ad cI cM X) (TA ad s.heap.size)) args s fc fn (TA ad s.heap.size)) (F0 m (pc + 3) ls (.long r :: rest))) : W p l e R s m args below meth c H locs cells slots (vx_MQ below Qc (vx_X (fun _ : TMem => True) (TEX D ad cI cM X) (TA ad s.heap.size)) args s fc fn (TA ad s.heap.size)) (F0 m pc ls st0) :=
  vx_calll hr hw.2.2 (fun q _ h => TA.up hw.2.2.1 q h) (fun q h => TA.up hw.2.2.1 q h) (fun q _ h => TA.up hw.2.2.1 q h)
    (fun E ce q9 u t H1 locs1 ht _ _ hB _ _ hS h1 h2 h3 => vx_out (fun x hx => (hout x hx).elim) hlocks h1 h2 h3 (fun t9 ht9 _ => ⟨u, trivial, ⟨hB.1, by rw [TE, ht9, ← ht]; exact hB.2⟩, hS.F ht9⟩) hS.2.2 (by omega) (by omega))
    (fun r u t H1 locs1 ht _ hq hB _ _ hS => e1 ▸ e2 ▸ kk r u H1 locs1 hq ⟨by rw [← ht]; exact hB, hw.2.1, hS⟩)
theorem X_callv {Q1 : TMem → Prop} {st0 : List Value} {a : Array Value} (hw : TW D ad cI cM s μ H locs) (hout : ∀ x ∈ c.exceptionTable.toList, False) (hlocks : meth.locks = false) (e1 : cells + mc = c1) (e2 : slots + ms = n1) (g1 : c1 ≤ fc) (g2 : n1 ≤ fn) (hr : vx_Run p l e R s m args below meth c H locs cells slots mc ms (F0 m pc ls st0) rest (va_Qv Q1 (TE D ad cI cM) (TA ad H.size) a) (vx_X (fun _ : TMem => True) (TEX D ad cI cM X) (TA ad H.size)) (TA ad H.size))
    (kk : ∀ (μ1 : TMem) (H1 : Heap) (locs1 : List Loc), Q1 μ1 → TW D ad cI cM s μ1 H1 locs1 → W p l e R s m args below meth c H1 locs1 c1 n1 (vx_MQ below Qc (vx_X (fun _ : TMem => True) (TEX D ad cI cM X) (TA ad s.heap.size)) args s fc fn (TA ad s.heap.size)) (F0 m (pc + 3) ls (rest))) : W p l e R s m args below meth c H locs cells slots (vx_MQ below Qc (vx_X (fun _ : TMem => True) (TEX D ad cI cM X) (TA ad s.heap.size)) args s fc fn (TA ad s.heap.size)) (F0 m pc ls st0) :=
  vx_callv hr hw.2.2 (fun q _ h => TA.up hw.2.2.1 q h) (fun q h => TA.up hw.2.2.1 q h) (fun q _ h => TA.up hw.2.2.1 q h)
    (fun E ce q9 u t H1 locs1 ht _ _ hB _ _ hS h1 h2 h3 => vx_out (fun x hx => (hout x hx).elim) hlocks h1 h2 h3 (fun t9 ht9 _ => ⟨u, trivial, ⟨hB.1, by rw [TE, ht9, ← ht]; exact hB.2⟩, hS.F ht9⟩) hS.2.2 (by omega) (by omega))
    (fun u t H1 locs1 ht _ hq hB _ _ hS => e1 ▸ e2 ▸ kk u H1 locs1 hq ⟨by rw [← ht]; exact hB, hw.2.1, hS⟩)
theorem X_callo {Q1 : Nat → TMem → Prop} {st0 : List Value} {a : Array Value} (hw : TW D ad cI cM s μ H locs) (hout : ∀ x ∈ c.exceptionTable.toList, False) (hlocks : meth.locks = false) (e1 : cells + mc = c1) (e2 : slots + ms = n1) (g1 : c1 ≤ fc) (g2 : n1 ≤ fn) (hr : vx_Run p l e R s m args below meth c H locs cells slots mc ms (F0 m pc ls st0) rest (va_Qq (fun (r : Option Nat) (u : Nat × TMem) => r = some (ad u.1) ∧ kd u.1 = 2 ∧ Q1 u.1 u.2) (fun u t => TE D ad cI cM u.2 t) (TA ad H.size) a) (vx_X (fun _ : TMem => True) (TEX D ad cI cM X) (TA ad H.size)) (TA ad H.size))
    (kk : ∀ (k : Nat) (μ1 : TMem) (H1 : Heap) (locs1 : List Loc), kd k = 2 → Q1 k μ1 → TW D ad cI cM s μ1 H1 locs1 → W p l e R s m args below meth c H1 locs1 c1 n1 (vx_MQ below Qc (vx_X (fun _ : TMem => True) (TEX D ad cI cM X) (TA ad s.heap.size)) args s fc fn (TA ad s.heap.size)) (F0 m (pc + 3) ls (.ref (ad k) :: rest))) : W p l e R s m args below meth c H locs cells slots (vx_MQ below Qc (vx_X (fun _ : TMem => True) (TEX D ad cI cM X) (TA ad s.heap.size)) args s fc fn (TA ad s.heap.size)) (F0 m pc ls st0) := by
  refine vx_callq2 hr hw.2.2 (fun q _ h => TA.up hw.2.2.1 q h) (fun q h => TA.up hw.2.2.1 q h) (fun q _ h => TA.up hw.2.2.1 q h)
    (fun E ce q9 u t H1 locs1 ht _ _ hB _ _ hS h1 h2 h3 => vx_out (fun x hx => (hout x hx).elim) hlocks h1 h2 h3 (fun t9 ht9 _ => ⟨u, trivial, ⟨hB.1, by rw [TE, ht9, ← ht]; exact hB.2⟩, hS.F ht9⟩) hS.2.2 (by omega) (by omega))
    (fun r u t H1 locs1 ht _ hq hB _ _ hS => ?_)
  obtain ⟨rfl, hk, hq⟩ := hq
  exact e1 ▸ e2 ▸ kk u.1 u.2 H1 locs1 hk hq ⟨by rw [← ht]; exact hB, hw.2.1, hS⟩
theorem X_calls {Q1 : TMem → Prop} {st0 : List Value} {a : Array Value} (hw : TW D ad cI cM s μ H locs) (hout : ∀ x ∈ c.exceptionTable.toList, False) (hlocks : meth.locks = false) (e1 : cells + mc = c1) (e2 : slots + ms = n1) (g1 : c1 ≤ fc) (g2 : n1 ≤ fn) (hr : vx_Run p l e R s m args below meth c H locs cells slots mc ms (F0 m pc ls st0) rest (va_Qq (fun (_ : Option Nat) (u : TMem) => Q1 u) (TE D ad cI cM) (TA ad H.size) a) (vx_X (fun _ : TMem => True) (TEX D ad cI cM X) (TA ad H.size)) (TA ad H.size))
    (kk : ∀ (r : Option Nat) (μ1 : TMem) (H1 : Heap) (locs1 : List Loc), Q1 μ1 → TW D ad cI cM s μ1 H1 locs1 → W p l e R s m args below meth c H1 locs1 c1 n1 (vx_MQ below Qc (vx_X (fun _ : TMem => True) (TEX D ad cI cM X) (TA ad s.heap.size)) args s fc fn (TA ad s.heap.size)) (F0 m (pc + 3) ls (va_rf r :: rest))) : W p l e R s m args below meth c H locs cells slots (vx_MQ below Qc (vx_X (fun _ : TMem => True) (TEX D ad cI cM X) (TA ad s.heap.size)) args s fc fn (TA ad s.heap.size)) (F0 m pc ls st0) := by
  refine vx_callq2 hr hw.2.2 (fun q _ h => TA.up hw.2.2.1 q h) (fun q h => TA.up hw.2.2.1 q h) (fun q _ h => TA.up hw.2.2.1 q h)
    (fun E ce q9 u t H1 locs1 ht _ _ hB _ _ hS h1 h2 h3 => vx_out (fun x hx => (hout x hx).elim) hlocks h1 h2 h3 (fun t9 ht9 _ => ⟨u, trivial, ⟨hB.1, by rw [TE, ht9, ← ht]; exact hB.2⟩, hS.F ht9⟩) hS.2.2 (by omega) (by omega))
    (fun r u t H1 locs1 ht _ hq hB _ _ hS => e1 ▸ e2 ▸ kk r u H1 locs1 hq ⟨by rw [← ht]; exact hB, hw.2.1, hS⟩)
theorem X_throw {cls text : String} {ik is ic : Nat} (hx : p.tables.exec = Jvm.exec) (hb : c.code = cc) (hst : l.stackTraces = false) (hml : ls.size = c.maxLocals) (hown : s.vm.findClass "Leastreader" = some m.cls) (hcls : Bundle.fit cls = true) (hk : (Cond.classLink RX9 ik cls).before args s = true) (hini : (Cond.initialized cls).before args s = true) (hstr : ∃ sa : Nat, vk_R "Leastreader" is text sa s) (hat : ∀ w ∈ vx_atS RX9 ic cls nmsX, w.before args s = true)
    (hgood : ∀ w ∈ Cond.classLink RX9 ik cls :: Cond.initialized cls :: vx_atS RX9 ic cls nmsX, vx_ot w = true) (hX : SX ad s) (hw : TW D ad cI cM s μ H locs) (hout : ∀ x ∈ c.exceptionTable.toList, False) (hlocks : meth.locks = false)
    (d0 : decode cc pc = .ok (.new ik, 3)) (d3 : decode cc (pc + 3) = .ok (.dup, 1)) (d4 : decode cc (pc + 4) = .ok (.ldc is, 2)) (d6 : decode cc (pc + 6) = .ok (.invokespecial ic, 3)) (d9 : decode cc (pc + 9) = .ok (.athrow, 1))
    (hR1 : 5 < R.frames) (hR2 : (rest.map fun v => v.category).sum + 82 ≤ R.locals) (hR3 : cells + 1 ≤ R.cells) (hR4 : slots + 6 ≤ R.slots) (g1 : cells + 1 ≤ fc) (g2 : slots + 6 ≤ fn) (hq : X cls μ) : W p l e R s m args below meth c H locs cells slots (vx_MQ below Qc (vx_X (fun _ : TMem => True) (TEX D ad cI cM X) (TA ad s.heap.size)) args s fc fn (TA ad s.heap.size)) (F0 m pc ls rest) := by
  obtain ⟨sa, hstr⟩ := hstr
  refine vx_throwS hx hb hst hown hcls fit_nms hk hini hstr hat hgood hX.1 hX.2.1 hw.2.2 hml d0 d3 d4 d6 d9 (fun x hx => (hout x hx).elim) hR1 hR2 hR3 hR4 hlocks (fun t _ hz ho => ?_) hw.2.2.2.2 g1 g2
  refine ⟨μ, trivial, ⟨hq, va_P_grow hw.1 ho⟩, Nat.le_trans hw.2.2.1 hz, fun q h1 h2 => ?_⟩
  rw [ho q (Nat.lt_of_lt_of_le h1 hw.2.2.1)]
  exact hw.2.2.2.1 q h1 h2
theorem X_throwW {cls text : String} {ik is ic : Nat} (hx : p.tables.exec = Jvm.exec) (hb : c.code = cc) (hst : l.stackTraces = false) (hml : ls.size = c.maxLocals) (hown : s.vm.findClass "Leastreader" = some m.cls) (hcls : Bundle.fit cls = true) (hk : (Cond.classLink RX9 ik cls).before args s = true) (hini : (Cond.initialized cls).before args s = true) (hstr : ∃ sa : Nat, vk_R "Leastreader" is text sa s) (hat : ∀ w ∈ vx_atS RX9 ic cls nmsX, w.before args s = true)
    (hgood : ∀ w ∈ Cond.classLink RX9 ik cls :: Cond.initialized cls :: vx_atS RX9 ic cls nmsX, vx_ot w = true) (hX : SX ad s) (hw : TW D ad cI cM s μ H locs) (hout : ∀ x ∈ c.exceptionTable.toList, False) (hlocks : meth.locks = false)
    (d0 : decode cc pc = .ok (.new ik, 3)) (d3 : decode cc (pc + 3) = .ok (.dup, 1)) (d4 : decode cc (pc + 4) = .ok (.ldc_w is, 3)) (d6 : decode cc (pc + 7) = .ok (.invokespecial ic, 3)) (d9 : decode cc (pc + 10) = .ok (.athrow, 1))
    (hR1 : 5 < R.frames) (hR2 : (rest.map fun v => v.category).sum + 82 ≤ R.locals) (hR3 : cells + 1 ≤ R.cells) (hR4 : slots + 6 ≤ R.slots) (g1 : cells + 1 ≤ fc) (g2 : slots + 6 ≤ fn) (hq : X cls μ) : W p l e R s m args below meth c H locs cells slots (vx_MQ below Qc (vx_X (fun _ : TMem => True) (TEX D ad cI cM X) (TA ad s.heap.size)) args s fc fn (TA ad s.heap.size)) (F0 m pc ls rest) := by
  obtain ⟨sa, hstr⟩ := hstr
  refine vx_throwSW hx hb hst hown hcls fit_nms hk hini hstr hat hgood hX.1 hX.2.1 hw.2.2 hml d0 d3 d4 d6 d9 (fun x hx => (hout x hx).elim) hR1 hR2 hR3 hR4 hlocks (fun t _ hz ho => ?_) hw.2.2.2.2 g1 g2
  refine ⟨μ, trivial, ⟨hq, va_P_grow hw.1 ho⟩, Nat.le_trans hw.2.2.1 hz, fun q h1 h2 => ?_⟩
  rw [ho q (Nat.lt_of_lt_of_le h1 hw.2.2.1)]
  exact hw.2.2.2.1 q h1 h2
theorem X_meti {l : Launch} {y : MethodName} {bytes : ByteArray} {maxL : Nat} {ty : FieldType} {h fc fn : Nat} {as : List Value} {D : va_G} {ad : Nat → Nat} {cI cM : ClassId} {sz : Nat} {μ : TMem} {Q : Int32 → TMem → Prop} {X : String → TMem → Prop} (hy : plainName y.cls = true) (hsl : (lg_sl as).length ≤ maxL)
    (body : ∀ (p : Program) (e : Env) (s : State) (m : MethodId) (below : List Frame) (meth : Method) (c : Code) (Qc : Array Value → State → Outcome → State → Prop) (ls : Array Slot), p.tables.exec = Jvm.exec → c.code = bytes → c.maxLocals = maxL → s.vm.findClass y.cls = some m.cls → (∀ w ∈ W0, w.before as.toArray s = true) → NW s → TK D cI cM s → SX ad s → (∀ x ∈ c.exceptionTable.toList, False) → meth.locks = false → TW D ad cI cM s μ s.heap [] →
      (∀ (H : Heap) (locs : List Loc) (ls : Array Slot) (pc cells slots : Nat) (v : Int32) (μ1 : TMem), TW D ad cI cM s μ1 H locs → Q v μ1 → narrow ty (.int v) = .int v → cells ≤ fc → slots ≤ fn → decode bytes pc = .ok (.ireturn, 1) → W p l e (RX h fc fn) s m as.toArray below meth c H locs cells slots (vx_MQ below Qc (vx_X (fun _ : TMem => True) (TEX D ad cI cM X) (TA ad s.heap.size)) as.toArray s fc fn (TA ad s.heap.size)) (F0 m pc ls [.int v])) → lv_has ls maxL (lv_args 0 as) →
      W p l e (RX h fc fn) s m as.toArray below meth c s.heap [] 0 0 (vx_MQ below Qc (vx_X (fun _ : TMem => True) (TEX D ad cI cM X) (TA ad s.heap.size)) as.toArray s fc fn (TA ad s.heap.size)) (F0 m 0 ls [])) : XMi l y (.code y bytes maxL (some ty)) h fc fn as D ad cI cM sz μ Q X := by
  refine vx_ofW (cc := bytes) (maxL := maxL) (ret := (some ty)) hy rfl ?_
  intro p e s m args below meth c s₁ B hml htab hv
  obtain ⟨rfl, ⟨hsz, hP, hK, hI, hN⟩, hX⟩ := hv
  subst hsz
  have hts := atoms_spec B.pre
  have hlocks := B.notSynchronized
  rw [lg_entry_eq]
  refine body p e s m below meth c _ _ B.exec B.bytes hml (findClass_of_methodNamed B.named) (fun w hw => hts w (List.mem_cons_of_mem _ hw)) hN hK hX htab hlocks ⟨hP, hI, va_S.rf⟩ (fun H locs ls pc cells slots v μ1 hw hq hn hc hs hdg => ?_) (lv_entry as hsl)
  exact W.widen hc hs (vx_ret (W.zret B.exec B.bytes B.returns hn (fun t ht9 hW => ⟨⟨v, μ1, rfl, hq, by rw [TE, ht9]; exact hw.1⟩, hw.2.2.F ht9⟩) hw.2.2.2.2 hdg hlocks))
theorem X_metv {l : Launch} {y : MethodName} {bytes : ByteArray} {maxL : Nat} {h fc fn : Nat} {as : List Value} {D : va_G} {ad : Nat → Nat} {cI cM : ClassId} {sz : Nat} {μ : TMem} {Q : TMem → Prop} {X : String → TMem → Prop} (hy : plainName y.cls = true) (hsl : (lg_sl as).length ≤ maxL)
    (body : ∀ (p : Program) (e : Env) (s : State) (m : MethodId) (below : List Frame) (meth : Method) (c : Code) (Qc : Array Value → State → Outcome → State → Prop) (ls : Array Slot), p.tables.exec = Jvm.exec → c.code = bytes → c.maxLocals = maxL → s.vm.findClass y.cls = some m.cls → (∀ w ∈ W0, w.before as.toArray s = true) → NW s → TK D cI cM s → SX ad s → (∀ x ∈ c.exceptionTable.toList, False) → meth.locks = false → TW D ad cI cM s μ s.heap [] →
      (∀ (H : Heap) (locs : List Loc) (ls : Array Slot) (pc cells slots : Nat) (μ1 : TMem), TW D ad cI cM s μ1 H locs → Q μ1 → cells ≤ fc → slots ≤ fn → decode bytes pc = .ok (.return_, 1) → W p l e (RX h fc fn) s m as.toArray below meth c H locs cells slots (vx_MQ below Qc (vx_X (fun _ : TMem => True) (TEX D ad cI cM X) (TA ad s.heap.size)) as.toArray s fc fn (TA ad s.heap.size)) (F0 m pc ls [])) → lv_has ls maxL (lv_args 0 as) →
      W p l e (RX h fc fn) s m as.toArray below meth c s.heap [] 0 0 (vx_MQ below Qc (vx_X (fun _ : TMem => True) (TEX D ad cI cM X) (TA ad s.heap.size)) as.toArray s fc fn (TA ad s.heap.size)) (F0 m 0 ls [])) : XMv l y (.code y bytes maxL none) h fc fn as D ad cI cM sz μ Q X := by
  refine vx_ofW (cc := bytes) (maxL := maxL) (ret := none) hy rfl ?_
  intro p e s m args below meth c s₁ B hml htab hv
  obtain ⟨rfl, ⟨hsz, hP, hK, hI, hN⟩, hX⟩ := hv
  subst hsz
  have hts := atoms_spec B.pre
  have hlocks := B.notSynchronized
  rw [lg_entry_eq]
  refine body p e s m below meth c _ _ B.exec B.bytes hml (findClass_of_methodNamed B.named) (fun w hw => hts w (List.mem_cons_of_mem _ hw)) hN hK hX htab hlocks ⟨hP, hI, va_S.rf⟩ (fun H locs ls pc cells slots μ1 hw hq hc hs hdg => ?_) (lv_entry as hsl)
  exact W.widen hc hs (vx_ret (W.vret B.exec B.bytes B.returns (fun t ht9 hW => ⟨⟨μ1, rfl, hq, by rw [TE, ht9]; exact hw.1⟩, hw.2.2.F ht9⟩) hw.2.2.2.2 hdg hlocks))
theorem X_metl {l : Launch} {y : MethodName} {bytes : ByteArray} {maxL : Nat} {h fc fn : Nat} {as : List Value} {D : va_G} {ad : Nat → Nat} {cI cM : ClassId} {sz : Nat} {μ : TMem} {Q : Int64 → TMem → Prop} {X : String → TMem → Prop} (hy : plainName y.cls = true) (hsl : (lg_sl as).length ≤ maxL)
    (body : ∀ (p : Program) (e : Env) (s : State) (m : MethodId) (below : List Frame) (meth : Method) (c : Code) (Qc : Array Value → State → Outcome → State → Prop) (ls : Array Slot), p.tables.exec = Jvm.exec → c.code = bytes → c.maxLocals = maxL → s.vm.findClass y.cls = some m.cls → (∀ w ∈ W0, w.before as.toArray s = true) → NW s → TK D cI cM s → SX ad s → (∀ x ∈ c.exceptionTable.toList, False) → meth.locks = false → TW D ad cI cM s μ s.heap [] →
      (∀ (H : Heap) (locs : List Loc) (ls : Array Slot) (pc cells slots : Nat) (v : Int64) (μ1 : TMem), TW D ad cI cM s μ1 H locs → Q v μ1 → cells ≤ fc → slots ≤ fn → decode bytes pc = .ok (.lreturn, 1) → W p l e (RX h fc fn) s m as.toArray below meth c H locs cells slots (vx_MQ below Qc (vx_X (fun _ : TMem => True) (TEX D ad cI cM X) (TA ad s.heap.size)) as.toArray s fc fn (TA ad s.heap.size)) (F0 m pc ls [.long v])) → lv_has ls maxL (lv_args 0 as) →
      W p l e (RX h fc fn) s m as.toArray below meth c s.heap [] 0 0 (vx_MQ below Qc (vx_X (fun _ : TMem => True) (TEX D ad cI cM X) (TA ad s.heap.size)) as.toArray s fc fn (TA ad s.heap.size)) (F0 m 0 ls [])) : XMl l y (.code y bytes maxL (some .long)) h fc fn as D ad cI cM sz μ Q X := by
  refine vx_ofW (cc := bytes) (maxL := maxL) (ret := (some .long)) hy rfl ?_
  intro p e s m args below meth c s₁ B hml htab hv
  obtain ⟨rfl, ⟨hsz, hP, hK, hI, hN⟩, hX⟩ := hv
  subst hsz
  have hts := atoms_spec B.pre
  have hlocks := B.notSynchronized
  rw [lg_entry_eq]
  refine body p e s m below meth c _ _ B.exec B.bytes hml (findClass_of_methodNamed B.named) (fun w hw => hts w (List.mem_cons_of_mem _ hw)) hN hK hX htab hlocks ⟨hP, hI, va_S.rf⟩ (fun H locs ls pc cells slots v μ1 hw hq hc hs hdg => ?_) (lv_entry as hsl)
  exact W.widen hc hs (vx_ret (W.lret B.exec B.bytes B.returns (fun t ht9 hW => ⟨⟨v, μ1, rfl, hq, by rw [TE, ht9]; exact hw.1⟩, hw.2.2.F ht9⟩) hw.2.2.2.2 hdg hlocks))
theorem X_meto {l : Launch} {y : MethodName} {bytes : ByteArray} {maxL : Nat} {cn : String} {h fc fn : Nat} {as : List Value} {D : va_G} {ad : Nat → Nat} {cI cM : ClassId} {sz : Nat} {μ : TMem} {Q : Nat → TMem → Prop} {X : String → TMem → Prop} (hy : plainName y.cls = true) (hsl : (lg_sl as).length ≤ maxL)
    (body : ∀ (p : Program) (e : Env) (s : State) (m : MethodId) (below : List Frame) (meth : Method) (c : Code) (Qc : Array Value → State → Outcome → State → Prop) (ls : Array Slot), p.tables.exec = Jvm.exec → c.code = bytes → c.maxLocals = maxL → s.vm.findClass y.cls = some m.cls → (∀ w ∈ W0, w.before as.toArray s = true) → NW s → TK D cI cM s → SX ad s → (∀ x ∈ c.exceptionTable.toList, False) → meth.locks = false → TW D ad cI cM s μ s.heap [] →
      (∀ (H : Heap) (locs : List Loc) (ls : Array Slot) (pc cells slots : Nat) (k : Nat) (μ1 : TMem), TW D ad cI cM s μ1 H locs → Q k μ1 → kd k = 2 → cells ≤ fc → slots ≤ fn → decode bytes pc = .ok (.areturn, 1) → W p l e (RX h fc fn) s m as.toArray below meth c H locs cells slots (vx_MQ below Qc (vx_X (fun _ : TMem => True) (TEX D ad cI cM X) (TA ad s.heap.size)) as.toArray s fc fn (TA ad s.heap.size)) (F0 m pc ls [.ref (ad k)])) → lv_has ls maxL (lv_args 0 as) →
      W p l e (RX h fc fn) s m as.toArray below meth c s.heap [] 0 0 (vx_MQ below Qc (vx_X (fun _ : TMem => True) (TEX D ad cI cM X) (TA ad s.heap.size)) as.toArray s fc fn (TA ad s.heap.size)) (F0 m 0 ls [])) : XMo l y (.code y bytes maxL (some (.object cn))) h fc fn as D ad cI cM sz μ Q X := by
  refine vx_ofW (cc := bytes) (maxL := maxL) (ret := (some (.object cn))) hy rfl ?_
  intro p e s m args below meth c s₁ B hml htab hv
  obtain ⟨rfl, ⟨hsz, hP, hK, hI, hN⟩, hX⟩ := hv
  subst hsz
  have hts := atoms_spec B.pre
  have hlocks := B.notSynchronized
  rw [lg_entry_eq]
  refine body p e s m below meth c _ _ B.exec B.bytes hml (findClass_of_methodNamed B.named) (fun w hw => hts w (List.mem_cons_of_mem _ hw)) hN hK hX htab hlocks ⟨hP, hI, va_S.rf⟩ (fun H locs ls pc cells slots k μ1 hw hq hn hc hs hdg => ?_) (lv_entry as hsl)
  exact W.widen hc hs (vx_ret (W.aret B.exec B.bytes B.returns (Or.inl ⟨_, rfl⟩) (Or.inr ⟨_, rfl⟩) (fun t ht9 hW => ⟨⟨some (ad k), (k, μ1), rfl, ⟨rfl, hn, hq⟩, by show va_P D CL (TRX ad cI cM μ1) t.heap; rw [ht9]; exact hw.1⟩, hw.2.2.F ht9⟩) hw.2.2.2.2 hdg hlocks))
theorem X_mets {l : Launch} {y : MethodName} {bytes : ByteArray} {maxL : Nat} {cn : String} {h fc fn : Nat} {as : List Value} {D : va_G} {ad : Nat → Nat} {cI cM : ClassId} {sz : Nat} {μ : TMem} {Q : TMem → Prop} {X : String → TMem → Prop} (hy : plainName y.cls = true) (hsl : (lg_sl as).length ≤ maxL)
    (body : ∀ (p : Program) (e : Env) (s : State) (m : MethodId) (below : List Frame) (meth : Method) (c : Code) (Qc : Array Value → State → Outcome → State → Prop) (ls : Array Slot), p.tables.exec = Jvm.exec → c.code = bytes → c.maxLocals = maxL → s.vm.findClass y.cls = some m.cls → (∀ w ∈ W0, w.before as.toArray s = true) → NW s → TK D cI cM s → SX ad s → (∀ x ∈ c.exceptionTable.toList, False) → meth.locks = false → TW D ad cI cM s μ s.heap [] →
      (∀ (H : Heap) (locs : List Loc) (ls : Array Slot) (pc cells slots : Nat) (r : Option Nat) (μ1 : TMem), TW D ad cI cM s μ1 H locs → Q μ1 → cells ≤ fc → slots ≤ fn → decode bytes pc = .ok (.areturn, 1) → W p l e (RX h fc fn) s m as.toArray below meth c H locs cells slots (vx_MQ below Qc (vx_X (fun _ : TMem => True) (TEX D ad cI cM X) (TA ad s.heap.size)) as.toArray s fc fn (TA ad s.heap.size)) (F0 m pc ls [va_rf r])) → lv_has ls maxL (lv_args 0 as) →
      W p l e (RX h fc fn) s m as.toArray below meth c s.heap [] 0 0 (vx_MQ below Qc (vx_X (fun _ : TMem => True) (TEX D ad cI cM X) (TA ad s.heap.size)) as.toArray s fc fn (TA ad s.heap.size)) (F0 m 0 ls [])) : XMs l y (.code y bytes maxL (some (.object cn))) h fc fn as D ad cI cM sz μ Q X := by
  refine vx_ofW (cc := bytes) (maxL := maxL) (ret := (some (.object cn))) hy rfl ?_
  intro p e s m args below meth c s₁ B hml htab hv
  obtain ⟨rfl, ⟨hsz, hP, hK, hI, hN⟩, hX⟩ := hv
  subst hsz
  have hts := atoms_spec B.pre
  have hlocks := B.notSynchronized
  rw [lg_entry_eq]
  refine body p e s m below meth c _ _ B.exec B.bytes hml (findClass_of_methodNamed B.named) (fun w hw => hts w (List.mem_cons_of_mem _ hw)) hN hK hX htab hlocks ⟨hP, hI, va_S.rf⟩ (fun H locs ls pc cells slots r μ1 hw hq hc hs hdg => ?_) (lv_entry as hsl)
  exact W.widen hc hs (vx_ret (W.aret B.exec B.bytes B.returns (Or.inl ⟨_, rfl⟩) (by cases r; exact Or.inl rfl; exact Or.inr ⟨_, rfl⟩) (fun t ht9 hW => ⟨⟨r, μ1, rfl, hq, by rw [TE, ht9]; exact hw.1⟩, hw.2.2.F ht9⟩) hw.2.2.2.2 hdg hlocks))
end XLB
