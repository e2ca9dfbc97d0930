section LL2
variable {p : Program} {l : Launch} {e : Env} {R : Room} {s : State} {m : MethodId} {args : Array Value} {below : List Frame} {meth : Method} {c : Code} {H : Heap} {locs : List Loc} {cells slots : Nat} {Q : State → Prop}
variable {cc : ByteArray} {pc : Nat} {ls : Array Slot} {rest : List Value} {D : va_G} {ad bd : Nat → Nat} {cI cL cM cB : ClassId} {μ μ1 ν : TMem} {q : Nat} {nv : Int64} {sv : Value} {X : String → TMem → Prop} {a : Array Value} {st0 : List Value} {mc ms : Nat} {N : va_W}
/-- what holds of the machine from the law's start on -/
def LG (D : va_G) (cI cL cM cB : ClassId) (s : State) : Prop := TK D cI cM s ∧ MK D cI cL s ∧ JK D cB s ∧ CN s ∧ NW s ∧ XN s ∧ SR s ∧ NC s ∧ vx_Zq Bundle.tN "UNASSIGNED_STACK" Bundle.steD (SA s.heap.size) s s.heap ∧ vx_Zq Bundle.tN "SUPPRESSED_SENTINEL" Bundle.listD (SA s.heap.size) s s.heap ∧ ZS (SA s.heap.size) s s.heap ∧ TXS (SA s.heap.size) s s.heap
theorem LZ_MA (hw : MW D (MR bd cI ν) N (SA s.heap.size) s H locs) : ∀ z, MA bd H.size z → SA s.heap.size z := fun z h => h.elim (fun ⟨k, hk, e⟩ => by rw [e]; exact hw.2.1.2 k _ (MRN hk)) (fun h => Nat.le_trans hw.2.2.1.1 h)
/-- the tree and the law's own object -/
abbrev TO (ad : Nat → Nat) (cI cM : ClassId) (μ : TMem) (q : Nat) (nv : Int64) (sv : Value) : va_W := TRX ad cI cM μ ++ [OC q nv sv]
theorem TO_t {k : Nat} (hk : k < 59) : (TO ad cI cM μ q nv sv)[k]? = some (ad k, ent ad cI cM (μ k) k) := by
  rw [List.getElem?_append_left (by simp [TRX]; exact hk)]
  exact TRX_at hk
theorem TO_o : (TO ad cI cM μ q nv sv)[59]? = some (OC q nv sv) := by
  have h : (TRX ad cI cM μ).length = 59 := by simp [TRX]
  rw [List.getElem?_append_right (by rw [h]; exact Nat.le_refl _), h]
  rfl
theorem LZ_t (hw : MW D (MR bd cI ν) (TO ad cI cM μ q nv sv) (SA s.heap.size) s H locs) : va_P D CL (TRX ad cI cM μ) H := fun k x hx => by
  obtain ⟨hk, rfl⟩ := TRX_of hx
  exact hw.n (TO_t hk)
theorem LZ_o (hw : MW D (MR bd cI ν) (TO ad cI cM μ q nv sv) (SA s.heap.size) s H locs) : va_at D CL (OC q nv sv) H := hw.n TO_o
theorem LZ_TA (hw : MW D (MR bd cI ν) (TO ad cI cM μ q nv sv) (SA s.heap.size) s H locs) : ∀ z, TA ad H.size z → SA s.heap.size z := fun z h => h.elim (fun ⟨k, hk, e⟩ => by rw [e]; exact hw.2.1.2 _ _ (NAT (RG := MR bd cI ν) (TO_t hk))) (fun h => Nat.le_trans hw.2.2.1.1 h)
theorem LZ_LA (hw : MW D (MR bd cI ν) (TO ad cI cM μ q nv sv) (SA s.heap.size) s H locs) : ∀ z, LA ad q H.size z → SA s.heap.size z := fun z h => h.elim (LZ_TA hw z) (fun e => by rw [e]; exact hw.2.1.2 _ _ (NAT (RG := MR bd cI ν) TO_o))
theorem LZ_ne (hw : MW D (MR bd cI ν) (TO ad cI cM μ q nv sv) (SA s.heap.size) s H locs) : ∀ k, k < 59 → q ≠ ad k := fun k hk e => by
  have := hw.2.1.1 _ _ _ _ (NAT (RG := MR bd cI ν) (TO_t (ad := ad) (cI := cI) (cM := cM) (μ := μ) (q := q) (nv := nv) (sv := sv) hk)) (NAT (RG := MR bd cI ν) (TO_o (ad := ad) (cI := cI) (cM := cM) (μ := μ) (q := q) (nv := nv) (sv := sv))) e.symm
  omega
theorem LA_ws {sz : Nat} : ∀ z, LA ad q sz z → va_A (TO ad cI cM μ q nv sv) sz z := fun z h => by
  rcases h with (⟨k, hk, e⟩ | h) | e
  · rw [e]; exact Or.inl ⟨k, _, TO_t hk⟩
  · exact Or.inr h
  · rw [e]; exact Or.inl ⟨59, _, TO_o⟩
theorem TO_D {sz : Nat} {nv1 : Int64} {sv1 : Value} (hI : TI ad) (hne : ∀ k, k < 59 → q ≠ ad k) : va_D (va_A (TO ad cI cM μ q nv sv) sz) (TO ad cI cM μ1 q nv1 sv1) := by
  have hD := hI.D (cI := cI) (cM := cM) (μ := μ1) (sz := sz)
  refine va_D.app ⟨hD.1, fun k x hx => LA_ws _ (Or.inl (hD.2 k x hx))⟩ ⟨fun i j x y hx hy e => ?_, fun k x hx => ?_⟩ (fun i j x y hx hy e => ?_)
  · cases i with
    | zero => cases j with
      | zero => rfl
      | succ j => simp at hy
    | succ i => simp at hx
  · cases k with
    | zero => cases hx; exact LA_ws _ (Or.inr rfl)
    | succ k => simp at hx
  · cases j with
    | zero =>
      cases hy
      obtain ⟨hi, rfl⟩ := TRX_of hx
      exact hne i hi e.symm
    | succ j => simp at hy
theorem TO_P {nv1 : Int64} {sv1 : Value} (h1 : va_P D CL (TRX ad cI cM μ1) H) (h2 : va_at D CL (OC q nv1 sv1) H) : va_P D CL (TO ad cI cM μ1 q nv1 sv1) H := h1.app (fun k x hx => by
  cases k with
  | zero => cases hx; exact h2
  | succ k => simp at hx)
/-- a call of a wrapper -/
theorem LL_call {PW : Int32 → TMem × Int64 × Value → Prop} (hw : MW D (MR bd cI ν) (TO ad cI cM μ q nv sv) (SA s.heap.size) s H locs) (hI : TI ad) (hr : vx_Run p l e R s m args below meth c H locs cells slots mc ms (F0 m pc ls st0) rest (va_Qi PW (fun u t => va_P D CL (TRX ad cI cM u.1) t.heap ∧ va_at D CL (OC q u.2.1 u.2.2) t.heap) (LA ad q H.size) a) (vx_X (fun _ : Unit => True) (fun _ _ _ => False) (LA ad q H.size)) (LA ad q H.size))
    (kk : ∀ (r : Int32) (μ1 : TMem) (nv1 : Int64) (sv1 : Value) (H1 : Heap) (locs1 : List Loc), PW r (μ1, nv1, sv1) → MW D (MR bd cI ν) (TO ad cI cM μ1 q nv1 sv1) (SA s.heap.size) s H1 locs1 → W p l e R s m args below meth c H1 locs1 (cells + mc) (slots + ms) Q (F0 m (pc + 3) ls (.int r :: rest))) : W p l e R s m args below meth c H locs cells slots Q (F0 m pc ls st0) :=
  vx_calli hr hw.2.2.1 (fun z _ h => LZ_LA hw z h) (fun z h => LZ_LA hw z h) (fun z _ h => LZ_LA hw z h)
    (fun E ce q9 u t H1 locs1 ht _ _ hB _ hk hS h1 h2 h3 => hB.elim)
    (fun r u t H1 locs1 ht _ hq hB _ hk hS => kk r u.1 u.2.1 u.2.2 H1 locs1 hq (MW.repl (N0 := []) (ws := TO ad cI cM μ q nv sv) (ws1 := TO ad cI cM u.1 q u.2.1 u.2.2) hw (fun z h1 h2 => hk z h1 (fun h3 => h2 (LA_ws z h3))) (by rw [← ht]; exact TO_P hB.1 hB.2) (TO_D hI (LZ_ne hw)) hS))
/-- the tree alone was changed -/
theorem LZ_up (hw : MW D (MR bd cI ν) (TO ad cI cM μ q nv sv) (SA s.heap.size) s H locs) (hI : TI ad) {H1 : Heap} {locs1 : List Loc} (hk : ∀ z : Nat, z < H.size → ¬ TA ad H.size z → H1[z]? = H[z]?) (hP : va_P D CL (TRX ad cI cM μ1) H1) (hS : va_S (SA s.heap.size) s.heap H1 locs1) : MW D (MR bd cI ν) (TO ad cI cM μ1 q nv sv) (SA s.heap.size) s H1 locs1 :=
  MW.repl (N0 := []) (ws := TO ad cI cM μ q nv sv) (ws1 := TO ad cI cM μ1 q nv sv) hw (fun z h1 h2 => hk z h1 (fun h3 => h2 (LA_ws z (Or.inl h3)))) (TO_P hP ((LZ_o hw).kept (hk q (LZ_o hw).lt (LA.out (LZ_ne hw) (LZ_o hw).lt)))) (TO_D hI (LZ_ne hw)) hS
theorem LL_ti {Q1 : Int32 → TMem → Prop} (hw : MW D (MR bd cI ν) (TO ad cI cM μ q nv sv) (SA s.heap.size) s H locs) (hI : TI ad) (hr : va_Run p l e R s m args below meth c H locs cells slots mc ms (F0 m pc ls st0) rest (va_Qi Q1 (TE D ad cI cM) (TA ad H.size) a) (TA ad H.size))
    (kk : ∀ (r : Int32) (μ1 : TMem) (H1 : Heap) (locs1 : List Loc), Q1 r μ1 → MW D (MR bd cI ν) (TO ad cI cM μ1 q nv sv) (SA s.heap.size) s H1 locs1 → W p l e R s m args below meth c H1 locs1 (cells + mc) (slots + ms) Q (F0 m (pc + 3) ls (.int r :: rest))) : W p l e R s m args below meth c H locs cells slots Q (F0 m pc ls st0) :=
  va_calli hr hw.2.2.1 (fun z _ h => LZ_TA hw z h) (fun z h => LZ_TA hw z h) (fun r u t H1 locs1 ht _ hq hB _ hk hS => kk r u H1 locs1 hq (LZ_up hw hI hk (by rw [← ht]; exact hB) hS))
theorem LL_xi {Q1 : Int32 → TMem → Prop} (hX : ∀ E μ9, ¬ X E μ9) (hw : MW D (MR bd cI ν) (TO ad cI cM μ q nv sv) (SA s.heap.size) s H locs) (hI : TI ad) (hr : vx_Run p l e R s m args below meth c H locs cells slots mc ms (F0 m pc ls st0) rest (va_Qi Q1 (TE D ad cI cM) (TA ad H.size) a) (vx_X (fun _ : TMem => True) (TEX D ad cI cM X) (TA ad H.size)) (TA ad H.size))
    (kk : ∀ (r : Int32) (μ1 : TMem) (H1 : Heap) (locs1 : List Loc), Q1 r μ1 → MW D (MR bd cI ν) (TO ad cI cM μ1 q nv sv) (SA s.heap.size) s H1 locs1 → W p l e R s m args below meth c H1 locs1 (cells + mc) (slots + ms) Q (F0 m (pc + 3) ls (.int r :: rest))) : W p l e R s m args below meth c H locs cells slots Q (F0 m pc ls st0) :=
  vx_calli hr hw.2.2.1 (fun z _ h => LZ_TA hw z h) (fun z h => LZ_TA hw z h) (fun z _ h => LZ_TA hw z h) (fun E ce q9 u t H1 locs1 ht _ _ hB _ hk hS h1 h2 h3 => absurd hB.1 (hX E u)) (fun r u t H1 locs1 ht _ hq hB _ hk hS => kk r u H1 locs1 hq (LZ_up hw hI hk (by rw [← ht]; exact hB) hS))
theorem LL_xl {Q1 : Int64 → TMem → Prop} (hX : ∀ E μ9, ¬ X E μ9) (hw : MW D (MR bd cI ν) (TO ad cI cM μ q nv sv) (SA s.heap.size) s H locs) (hI : TI ad) (hr : vx_Run p l e R s m args below meth c H locs cells slots mc ms (F0 m pc ls st0) rest (va_Ql Q1 (TE D ad cI cM) (TA ad H.size) a) (vx_X (fun _ : TMem => True) (TEX D ad cI cM X) (TA ad H.size)) (TA ad H.size))
    (kk : ∀ (r : Int64) (μ1 : TMem) (H1 : Heap) (locs1 : List Loc), Q1 r μ1 → MW D (MR bd cI ν) (TO ad cI cM μ1 q nv sv) (SA s.heap.size) s H1 locs1 → W p l e R s m args below meth c H1 locs1 (cells + mc) (slots + ms) Q (F0 m (pc + 3) ls (.long r :: rest))) : W p l e R s m args below meth c H locs cells slots Q (F0 m pc ls st0) :=
  vx_calll hr hw.2.2.1 (fun z _ h => LZ_TA hw z h) (fun z h => LZ_TA hw z h) (fun z _ h => LZ_TA hw z h) (fun E ce q9 u t H1 locs1 ht _ _ hB _ hk hS h1 h2 h3 => absurd hB.1 (hX E u)) (fun r u t H1 locs1 ht _ hq hB _ hk hS => kk r u H1 locs1 hq (LZ_up hw hI hk (by rw [← ht]; exact hB) hS))
theorem MS_callr (hw : MW D (MR bd cI ν) N (SA s.heap.size) s H locs) (hr : va_Run p l e R s m args below meth c H locs cells slots mc ms (F0 m pc ls st0) rest (va_Qr (fun μ1 : TMem => FA ν μ1) (fun μ1 _ t => ME D bd cI μ1 t) (MA bd H.size) a) (MA bd H.size))
    (kk : ∀ (ra : Nat) (ν1 : TMem) (H1 : Heap) (locs1 : List Loc), FA ν ν1 → MW D (MR bd cI ν1) N (SA s.heap.size) s H1 locs1 → W p l e R s m args below meth c H1 locs1 (cells + mc) (slots + ms) Q (F0 m (pc + 3) ls (.ref ra :: rest))) : W p l e R s m args below meth c H locs cells slots Q (F0 m pc ls st0) :=
  va_callr hr hw.2.2.1 (fun z _ h => LZ_MA hw z h) (fun z h => LZ_MA hw z h) (fun u ra t H1 locs1 ht _ hq hB _ hk hS => kk ra u H1 locs1 hq (hw.keepM hk (by rw [← ht]; exact hB) hS))
theorem LG.tb (g : LG D cI cL cM cB s) (hI : TI ad) (hw : MW D (MR bd cI ν) (TO ad cI cM μ q nv sv) (SA s.heap.size) s H locs) {U : State} (hU : U.heap = H) (hW : s.WarmedH U.vm) : TB D ad cI cM H.size μ U := ⟨by rw [hU], by rw [hU]; exact LZ_t hw, va_K.moved hW.alike g.1, hI, NW.warm hW g.2.2.2.2.1⟩
theorem LG.tbx (g : LG D cI cL cM cB s) (hI : TI ad) (hw : MW D (MR bd cI ν) (TO ad cI cM μ q nv sv) (SA s.heap.size) s H locs) {U : State} (hU : U.heap = H) (hW : s.WarmedH U.vm) : TBX D ad cI cM H.size μ U := by
  refine ⟨g.tb hI hw hU hW, ?_, ?_, XN.warm hW g.2.2.2.2.2.1, SR.warm hW g.2.2.2.2.2.2.1⟩
  · rw [hU]
    exact vx_Zq.moved hW.alike ((g.2.2.2.2.2.2.2.2.1.kept hw.2.2.1.2.1).narrow (LZ_TA hw))
  · rw [hU]
    exact vx_Zq.moved hW.alike ((g.2.2.2.2.2.2.2.2.2.1.kept hw.2.2.1.2.1).narrow (LZ_TA hw))
theorem LG.lb {as : List Value} (g : LG D cI cL cM cB s) (hI : TI ad) (hw : MW D (MR bd cI ν) (TO ad cI cM μ q nv sv) (SA s.heap.size) s H locs) : ∀ U : State, U.heap = H → s.WarmedH U.vm → va_Pc as (LB D ad cI cM cB H.size μ q nv sv) as.toArray U := fun U hU hW => by
  refine ⟨rfl, ⟨g.tbx hI hw hU hW, va_K.moved hW.alike g.2.2.1, CN.warm hW g.2.2.2.1, ?_⟩, by rw [hU]; exact LZ_o hw, LZ_ne hw, NC.moved hW.alike g.2.2.2.2.2.2.2.1⟩
  rw [hU]
  exact ((g.2.2.2.2.2.2.2.2.2.2.1.kept hw.2.2.1.2.1).moved hW.alike).narrow (LZ_TA hw)
theorem LG.pT {as : List Value} (g : LG D cI cL cM cB s) (hI : TI ad) (hw : MW D (MR bd cI ν) (TO ad cI cM μ q nv sv) (SA s.heap.size) s H locs) : ∀ U : State, U.heap = H → s.WarmedH U.vm → va_Pc as (TB D ad cI cM H.size μ) as.toArray U := fun U hU hW => ⟨rfl, g.tb hI hw hU hW⟩
theorem LG.pX {as : List Value} (g : LG D cI cL cM cB s) (hI : TI ad) (hw : MW D (MR bd cI ν) (TO ad cI cM μ q nv sv) (SA s.heap.size) s H locs) : ∀ U : State, U.heap = H → s.WarmedH U.vm → va_Pc as (TBX D ad cI cM H.size μ) as.toArray U := fun U hU hW => ⟨rfl, g.tbx hI hw hU hW⟩
theorem LG.pS {as : List Value} (g : LG D cI cL cM cB s) (hJ : MI bd) (hw : MW D (MR bd cI ν) N (SA s.heap.size) s H locs) : ∀ U : State, U.heap = H → s.WarmedH U.vm → va_Pc as (MBS D bd cI cL cB H.size ν) as.toArray U := MBS.pre g.2.1 hJ g.2.2.1 g.2.2.2.1 g.2.2.2.2.2.2.2.2.2.2.1 g.2.2.2.2.2.2.2.2.2.2.2 hw (LZ_MA hw)
theorem LL_rv (g : LG D cI cL cM cB s) (hw : MW D (MR bd cI ν) (TO ad cI cM μ q nv sv) (SA s.heap.size) s H locs) : ∃ cell : Cell, H[ad 0]? = some cell ∧ cell.vm.isStatics = false ∧ s.vm.findClass RX9 = some cell.cls := va_recv g.1 hw.1 cl_8 (NAT (RG := MR bd cI ν) (TO_t (by decide)))
/-- the law's turn: what holds at the place pc -/
def LJ (p : Program) (l : Launch) (e : Env) (s : State) (m : MethodId) (b : Nat) (below : List Frame) (meth : Method) (c : Code) (D : va_G) (ad bd : Nat → Nat) (cI cM : ClassId) (q : Nat) (Z : State → Prop) (JI : TMem → TMem → Prop) (i : Int32) (cv sv pc : Nat) : Prop := ∀ (μ ν : TMem) (nv : Int64) (sw : Value) (H : Heap) (locs : List Loc) (ls : Array Slot), JI μ ν → MW D (MR bd cI ν) (TO ad cI cM μ q nv sw) (SA s.heap.size) s H locs → lv_has ls 7 [(0, .ref b), (1, .ref (ad 0)), (2, .ref (bd 0)), (3, .ref q), (4, .int i)] → W p l e room_1 s m #[.ref b] below meth c H locs cv sv Z (F0 m pc ls [])
def LC (p : Program) (l : Launch) (s : State) (m : MethodId) (b : Nat) (c : Code) (L : Nat) (xs : Nat → Int32) (D : va_G) (ad bd : Nat → Nat) (cI cL cM cB : ClassId) : Prop := p.tables.exec = Jvm.exec ∧ c.code = cL_law ∧ c.maxLocals = 7 ∧ s.vm.findClass "LeastreaderLaw" = some m.cls ∧ (∀ w ∈ W0, w.before #[.ref b] s = true) ∧ LG D cI cL cM cB s ∧ TI ad ∧ MI bd ∧ va_X b L xs s s.heap ∧ b < s.heap.size ∧ l.stackTraces = false ∧ L ≤ 384
theorem LG_cmp {x y : Int64} (h : x = y) : lg_cmp x y = 0 := by
  subst h
  simp [lg_cmp]
theorem L_getn (hx : p.tables.exec = Jvm.exec) (hb : c.code = cc) (ht : ∀ w ∈ W0, w.before args s = true) (hown : s.vm.findClass "LeastreaderLaw" = some m.cls) (hN : NW s) (hK : TK D cI cM s) (hw : MW D (MR bd cI ν) (TO ad cI cM μ q nv sv) (SA s.heap.size) s H locs) (hdg : decode cc pc = .ok (.getfield 13, 3))
    (kk : W p l e R s m args below meth c H locs cells slots Q (F0 m (pc + 3) ls (.long nv :: rest))) : W p l e R s m args below meth c H locs cells slots Q (F0 m pc ls (.ref q :: rest)) :=
  va_getN hx hb ht in_9 hown hK hw.1 ((MR bd cI ν).length + 59) (NAT TO_o) cl_9 0 (by decide) (nwu_581 hN) (fun _ h => h) rfl hdg kk
end LL2
