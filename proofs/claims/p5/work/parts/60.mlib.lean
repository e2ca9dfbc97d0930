section MLB
def mll : List Nat := [0, 4, 4, 4, 84]
def ml (k : Nat) : Nat := mll.getD k 0
def ment (ad : Nat → Nat) (cI : ClassId) (f : Nat → Int32) (k : Nat) : va_E := match k with
  | 0 => .inr (10, [.ref (ad 1), .ref (ad 2), .ref (ad 3), .ref (ad 4), .int (f 4), .int (f 5), .int (f 6), .int (f 7)])
  | j + 1 => .inl (cI, ml (j + 1), .inl f)
theorem ment_a {ad : Nat → Nat} {cI : ClassId} {f : Nat → Int32} {k : Nat} (h : 1 ≤ k) : ment ad cI f k = .inl (cI, ml k, .inl f) := by
  cases k with
  | zero => omega
  | succ j => rfl
def MR (ad : Nat → Nat) (cI : ClassId) (μ : TMem) : va_W := (List.range 5).map fun k => (ad k, ment ad cI (μ k) k)
theorem MR_len {ad : Nat → Nat} {cI : ClassId} {μ : TMem} : (MR ad cI μ).length = 5 := by simp [MR]
theorem MR_at {ad : Nat → Nat} {cI : ClassId} {μ : TMem} {k : Nat} (hk : k < 5) : (MR ad cI μ)[k]? = some (ad k, ment ad cI (μ k) k) := by
  simp [MR, List.getElem?_map, List.getElem?_range hk]
theorem MR_of {ad : Nat → Nat} {cI : ClassId} {μ : TMem} {k : Nat} {x : Nat × va_E} (h : (MR ad cI μ)[k]? = some x) : k < 5 ∧ x = (ad k, ment ad cI (μ k) k) := by
  rcases Nat.lt_or_ge k 5 with q | q
  · rw [MR_at q] at h
    exact ⟨q, (Option.some.inj h).symm⟩
  · rw [List.getElem?_eq_none (by rw [MR_len]; exact q)] at h
    cases h
theorem MR_set {ad : Nat → Nat} {cI : ClassId} {μ : TMem} {k i : Nat} {v : Int32} (hk : k < 5) : (MR ad cI μ).set k (ad k, ment ad cI (upd (μ k) i v) k) = MR ad cI (tms μ k i v) := by
  apply List.ext_getElem?
  intro j
  by_cases hj : j < 5
  · by_cases e : k = j
    · subst e
      rw [MR_at hk, List.getElem?_set_self (by rw [MR_len]; exact hk)]
      simp [tms]
    · rw [List.getElem?_set_ne e, MR_at hj, MR_at hj]
      simp [tms, Ne.symm e]
  · rw [List.getElem?_eq_none (by simp [MR]; omega), List.getElem?_eq_none (by rw [MR_len]; omega)]
def MK (D : va_G) (cI cL : ClassId) (U : State) : Prop := va_K D CL [(cI, .int), (cL, .long)] U
def MW (D : va_G) (RG N : va_W) (A : Nat → Prop) (s : State) (H : Heap) (locs : List Loc) : Prop := va_P D CL (RG ++ N) H ∧ va_D A (RG ++ N) ∧ va_S A s.heap H locs ∧ ∀ q, s.heap.size ≤ q → A q
def MA (ad : Nat → Nat) (sz : Nat) : Nat → Prop := fun q => (∃ k : Nat, k < 5 ∧ q = ad k) ∨ sz ≤ q
def SA (sz : Nat) : Nat → Prop := fun q => sz ≤ q
abbrev eI (cI : ClassId) (a n : Nat) (f : Nat → Int32) : Nat × va_E := (a, .inl (cI, n, .inl f))
abbrev eL (cL : ClassId) (a n : Nat) (f : Nat → Int64) : Nat × va_E := (a, .inl (cL, n, .inr (.inl f)))
abbrev RA (h c n : Nat) : Room := { frames := h, cells := c, slots := n, locals := 40 * h }
variable {p : Program} {l : Launch} {e : Env} {R : Room} {s : State} {m : MethodId} {args : Array Value} {below : List Frame} {meth : Method} {c : Code} {H : Heap} {locs : List Loc} {cells slots : Nat} {Q : State → Prop}
variable {cc : ByteArray} {pc : Nat} {ls : Array Slot} {rest : List Value} {D : va_G} {ad : Nat → Nat} {cI cL : ClassId} {μ : TMem} {k : Nat} {RG N : va_W} {A : Nat → Prop}
theorem MRN (hk : k < 5) : (MR ad cI μ ++ N)[k]? = some (ad k, ment ad cI (μ k) k) := by
  rw [List.getElem?_append_left (by rw [MR_len]; exact hk), MR_at hk]
theorem NAT {j : Nat} {x : Nat × va_E} (h : N[j]? = some x) : (RG ++ N)[RG.length + j]? = some x := by
  rw [List.getElem?_append_right (by omega), show RG.length + j - RG.length = j by omega]
  exact h
theorem va_P1 {x : Nat × va_E} (h : va_at D CL x H) : va_P D CL [x] H := fun k q hq => by
  cases k with
  | zero => cases hq; exact h
  | succ j => simp at hq
theorem va_Pc2 {x : Nat × va_E} {L : va_W} (h : va_at D CL x H) (hL : va_P D CL L H) : va_P D CL (x :: L) H := fun k q hq => by
  cases k with
  | zero => cases hq; exact h
  | succ j => exact hL j q hq
theorem va_P0 : va_P D CL [] H := fun k q hq => by simp at hq
theorem va_Ph {x : Nat × va_E} {L : va_W} (h : va_P D CL (x :: L) H) : va_at D CL x H := h 0 x rfl
theorem va_Pt {x : Nat × va_E} {L : va_W} (h : va_P D CL (x :: L) H) : va_P D CL L H := fun k q hq => h (k + 1) q hq
theorem set_r {L : va_W} {j : Nat} {x : Nat × va_E} : (RG ++ L).set (RG.length + j) x = RG ++ L.set j x := by
  rw [List.set_append_right (RG.length + j) x (by omega), show RG.length + j - RG.length = j by omega]
theorem set_l {j : Nat} {x : Nat × va_E} (h : j < RG.length) : (RG ++ N).set j x = RG.set j x ++ N := List.set_append_left j x h
theorem MW.n (hw : MW D RG N A s H locs) {j : Nat} {x : Nat × va_E} (h : N[j]? = some x) : va_at D CL x H := hw.1 _ _ (NAT h)
theorem MW.arg (hw : MW D RG N A s H locs) {x : Nat × va_E} (h : va_at D CL x s.heap) (hn : ¬ A x.1) : va_at D CL x H := h.kept (hw.2.2.1.2.1 _ h.lt hn)
theorem MW.sub (hw : MW D RG N A s H locs) {N' : va_W} (is : List Nat) (hn : va_nd is = true) (hs : is.map (fun i => N[i]?) = N'.map some) : MW D RG N' A s H locs := by
  have g : ∀ (j : Nat) (q : Nat × va_E), N'[j]? = some q → ∃ i, is[j]? = some i ∧ N[i]? = some q := by
    intro j q hq
    have h1 : (is.map (fun i => N[i]?))[j]? = some (some q) := by rw [hs, List.getElem?_map, hq]; rfl
    rw [List.getElem?_map] at h1
    cases hi : is[j]? with
    | none => rw [hi] at h1; cases h1
    | some i => rw [hi] at h1; exact ⟨i, rfl, Option.some.inj h1⟩
  have hR : va_D A RG := ⟨fun i j x y hx hy e => hw.2.1.1 i j x y (by rw [List.getElem?_append_left (List.getElem?_eq_some_iff.mp hx).1]; exact hx) (by rw [List.getElem?_append_left (List.getElem?_eq_some_iff.mp hy).1]; exact hy) e, fun k q hk => hw.2.1.2 k q (by rw [List.getElem?_append_left (List.getElem?_eq_some_iff.mp hk).1]; exact hk)⟩
  have hN : va_D A N := ⟨fun i j x y hx hy e => by
    have := hw.2.1.1 _ _ x y (NAT (RG := RG) hx) (NAT (RG := RG) hy) e
    omega, fun k q hk => hw.2.1.2 _ q (NAT hk)⟩
  refine ⟨va_P.app (fun k q hk => hw.1 k q (by rw [List.getElem?_append_left (List.getElem?_eq_some_iff.mp hk).1]; exact hk)) (fun k q hk => ?_), va_D.app hR (hN.sub is hn hs) (fun i j x y hx hy e => ?_), hw.2.2⟩
  · obtain ⟨i, -, h2⟩ := g k q hk
    exact hw.1 _ _ (NAT h2)
  · obtain ⟨i2, -, h2⟩ := g j y hy
    have hl := (List.getElem?_eq_some_iff.mp hx).1
    have := hw.2.1.1 i (RG.length + i2) x y (by rw [List.getElem?_append_left hl]; exact hx) (NAT h2) e
    omega
theorem MW.push (hw : MW D RG N A s H locs) {x : Nat × va_E} {H0 : Heap} (h : va_at D CL x H) (hf : H0.size ≤ x.1) (h0 : ∀ (k : Nat) (q : Nat × va_E), (RG ++ N)[k]? = some q → q.1 < H0.size) (hs : s.heap.size ≤ H0.size) : MW D RG (N ++ [x]) A s H locs := by
  refine ⟨?_, ?_, hw.2.2⟩
  · rw [← List.append_assoc]
    exact hw.1.app (va_P1 h)
  · rw [← List.append_assoc]
    refine va_D.app hw.2.1 ⟨fun i j p q hp hq _ => ?_, fun k q hk => ?_⟩ (fun i j p q hp hq e => ?_)
    · have := (List.getElem?_eq_some_iff.mp hp).1
      have := (List.getElem?_eq_some_iff.mp hq).1
      simp at *
      omega
    · have h1 := (List.getElem?_eq_some_iff.mp hk).1
      have h2 : k = 0 := by simp at h1; omega
      subst h2
      cases hk
      exact hw.2.2.2 _ (by omega)
    · have h1 := (List.getElem?_eq_some_iff.mp hq).1
      have h2 : j = 0 := by simp at h1; omega
      subst h2
      cases hq
      have := h0 i p hp
      omega
theorem MW.lt (hw : MW D RG N A s H locs) : ∀ (k : Nat) (q : Nat × va_E), (RG ++ N)[k]? = some q → q.1 < H.size := fun k q h => (hw.1 k q h).lt
/-- behind a call that changes nothing old -/
theorem MW.keepS (hw : MW D RG N A s H locs) {H1 : Heap} {locs1 : List Loc} (hk : ∀ q : Nat, q < H.size → ¬ SA H.size q → H1[q]? = H[q]?) (hS : va_S A s.heap H1 locs1) : MW D RG N A s H1 locs1 :=
  ⟨hw.1.kept (fun k q h => hk q.1 (hw.lt k q h) (fun z => absurd (hw.lt k q h) (Nat.not_lt.mpr z))), hw.2.1, hS, hw.2.2.2⟩
/-- behind a call that changes the region -/
theorem MW.keepM (hw : MW D (MR ad cI μ) N A s H locs) {μ1 : TMem} {H1 : Heap} {locs1 : List Loc} (hk : ∀ q : Nat, q < H.size → ¬ MA ad H.size q → H1[q]? = H[q]?) (hP : va_P D CL (MR ad cI μ1) H1) (hS : va_S A s.heap H1 locs1) : MW D (MR ad cI μ1) N A s H1 locs1 := by
  refine ⟨hP.app (fun k q h => (hw.1 _ _ (NAT h)).kept (hk q.1 (hw.lt _ _ (NAT h)) (fun z => ?_))), ⟨fun i j x y hx hy e => ?_, fun k q h => ?_⟩, hS, hw.2.2.2⟩
  · rcases z with ⟨i, hi, e⟩ | z
    · have := hw.2.1.1 (5 + k) i q (ad i, ment ad cI (μ i) i) (by have := NAT (RG := MR ad cI μ) h; rw [MR_len] at this; exact this) (MRN hi) e
      omega
    · exact absurd (hw.lt _ _ (NAT h)) (Nat.not_lt.mpr z)
  · have tr : ∀ (i : Nat) (x : Nat × va_E), (MR ad cI μ1 ++ N)[i]? = some x → ∃ x' : Nat × va_E, (MR ad cI μ ++ N)[i]? = some x' ∧ x'.1 = x.1 := by
      intro i x hx
      by_cases hi : i < 5
      · rw [MRN hi] at hx
        cases hx
        exact ⟨_, MRN hi, rfl⟩
      · rw [List.getElem?_append_right (by rw [MR_len]; omega), MR_len] at hx
        exact ⟨x, by rw [List.getElem?_append_right (by rw [MR_len]; omega), MR_len]; exact hx, rfl⟩
    obtain ⟨x', h1, e1⟩ := tr i x hx
    obtain ⟨y', h2, e2⟩ := tr j y hy
    exact hw.2.1.1 i j x' y' h1 h2 (by rw [e1, e2]; exact e)
  · by_cases hi : k < 5
    · rw [MRN hi] at h
      cases h
      have h9 := hw.2.1.2 k (ad k, ment ad cI (μ k) k) (MRN hi)
      exact h9
    · rw [List.getElem?_append_right (by rw [MR_len]; omega), MR_len] at h
      exact hw.2.1.2 k q (by rw [List.getElem?_append_right (by rw [MR_len]; omega), MR_len]; exact h)
theorem MA.up {sz1 sz2 : Nat} (h : sz1 ≤ sz2) : ∀ q, MA ad sz2 q → MA ad sz1 q := fun q h9 => h9.elim Or.inl (fun z => Or.inr (Nat.le_trans h z))
theorem m_get (hx : p.tables.exec = Jvm.exec) (hb : c.code = cc) (ht : ∀ w ∈ W0, w.before args s = true) {index i : Nat} (hown : s.vm.findClass "LeastreaderModel" = some m.cls) (hK : MK D cI cL s) (hw : MW D (MR ad cI μ) N A s H locs) (hi : i < 8) (hlink : (Cond.fieldLink "LeastreaderModel" index "LeastreaderModel" (TX11 i).2.1 (TX11 i).2.2.1).before args s = true) (hd : (TX11 i).1 = "LeastreaderModel") {v : Value} (hv : ([.ref (ad 1), .ref (ad 2), .ref (ad 3), .ref (ad 4), .int (μ 0 4), .int (μ 0 5), .int (μ 0 6), .int (μ 0 7)] : List Value)[i]? = some v) (hdg : decode cc pc = .ok (.getfield index, 3))
    (kk : W p l e R s m args below meth c H locs cells slots Q (F0 m (pc + 3) ls (v :: rest))) : W p l e R s m args below meth c H locs cells slots Q (F0 m pc ls (.ref (ad 0) :: rest)) :=
  va_get hx hb ht in_10 hown hK hw.1 0 (MRN (by decide)) cl_10 i hi hlink (fun x h => by rw [hd] at h; exact h) hv hdg kk
theorem m_put (hx : p.tables.exec = Jvm.exec) (hb : c.code = cc) (ht : ∀ w ∈ W0, w.before args s = true) {index i : Nat} (hown : s.vm.findClass "LeastreaderModel" = some m.cls) (hK : MK D cI cL s) (hw : MW D (MR ad cI μ) N A s H locs) (hi : i < 8) (hi4 : 4 ≤ i) (hlink : (Cond.fieldLink "LeastreaderModel" index "LeastreaderModel" (TX11 i).2.1 (TX11 i).2.2.1).before args s = true) (hd : (TX11 i).1 = "LeastreaderModel") (hfin : (TX11 i).2.2.2 = false) {v : Int32} (hde : parseFieldDescriptor (TX11 i).2.2.1 = some .int) (hdg : decode cc pc = .ok (.putfield index, 3))
    (kk : ∀ (H1 : Heap) (locs1 : List Loc), MW D (MR ad cI (tms μ 0 i v)) N A s H1 locs1 → W p l e R s m args below meth c H1 locs1 cells slots Q (F0 m (pc + 3) ls rest)) : W p l e R s m args below meth c H locs cells slots Q (F0 m pc ls (.int v :: .ref (ad 0) :: rest)) := by
  have he : ment ad cI (upd (μ 0) i v) 0 = .inr (10, ([.ref (ad 1), .ref (ad 2), .ref (ad 3), .ref (ad 4), .int (μ 0 4), .int (μ 0 5), .int (μ 0 6), .int (μ 0 7)] : List Value).set i (.int v)) := by
    rcases (show i = 4 ∨ i = 5 ∨ i = 6 ∨ i = 7 by omega) with rfl | rfl | rfl | rfl <;> rfl
  refine va_put hx hb ht in_10 tyX11 tyX11_ok nmX11 hown hK hw.1 hw.2.1 hw.2.2.1 0 (MRN (by decide)) cl_10 i hi hlink (fun x h => by rw [hd] at h; exact h) hfin hde rfl rfl hi hdg (fun H1 locs1 hP hD hS => ?_)
  rw [← he, set_l (by rw [MR_len]; decide), MR_set (by decide)] at hP hD
  exact kk H1 locs1 ⟨hP, hD, hS, hw.2.2.2⟩
theorem m_iald (hx : p.tables.exec = Jvm.exec) (hb : c.code = cc) (hK : MK D cI cL s) (hw : MW D (MR ad cI μ) N A s H locs) (hk : 1 ≤ k ∧ k < 5) {i : Int32} (hin : vp_in i (ml k)) (hdg : decode cc pc = .ok (.iaload, 1))
    (kk : W p l e R s m args below meth c H locs cells slots Q (F0 m (pc + 1) ls (.int (μ k i.toNatClampNeg) :: rest))) : W p l e R s m args below meth c H locs cells slots Q (F0 m pc ls (.int i :: .ref (ad k) :: rest)) :=
  va_iald hx hb hK hw.1 k 0 (by rw [MRN hk.2, ment_a hk.1]) rfl hin hdg kk
theorem m_iast (hx : p.tables.exec = Jvm.exec) (hb : c.code = cc) (hK : MK D cI cL s) (hw : MW D (MR ad cI μ) N A s H locs) (hk : 1 ≤ k ∧ k < 5) {i x : Int32} (hin : vp_in i (ml k)) (hdg : decode cc pc = .ok (.iastore, 1))
    (kk : ∀ (H1 : Heap) (locs1 : List Loc), MW D (MR ad cI (tms μ k i.toNatClampNeg x)) N A s H1 locs1 → W p l e R s m args below meth c H1 locs1 cells slots Q (F0 m (pc + 1) ls rest)) : W p l e R s m args below meth c H locs cells slots Q (F0 m pc ls (.int x :: .int i :: .ref (ad k) :: rest)) := by
  refine va_iast hx hb hK hw.1 hw.2.1 hw.2.2.1 k 0 (f := μ k) (by rw [MRN hk.2, ment_a hk.1]) rfl hin hdg (fun H1 locs1 hP hD hS => ?_)
  rw [← ment_a (ad := ad) (cI := cI) (f := upd (μ k) i.toNatClampNeg x) hk.1, set_l (by rw [MR_len]; exact hk.2), MR_set hk.2] at hP hD
  exact kk H1 locs1 ⟨hP, hD, hS, hw.2.2.2⟩
theorem n_iald {a n : Nat} {f : Nat → Int32} (hx : p.tables.exec = Jvm.exec) (hb : c.code = cc) (hK : MK D cI cL s) (h : va_at D CL (eI cI a n f) H) {i : Int32} (hin : vp_in i n) (hdg : decode cc pc = .ok (.iaload, 1))
    (kk : W p l e R s m args below meth c H locs cells slots Q (F0 m (pc + 1) ls (.int (f i.toNatClampNeg) :: rest))) : W p l e R s m args below meth c H locs cells slots Q (F0 m pc ls (.int i :: .ref a :: rest)) :=
  va_iald hx hb hK (va_P1 h) 0 0 rfl rfl hin hdg kk
theorem n_lald {a n : Nat} {f : Nat → Int64} (hx : p.tables.exec = Jvm.exec) (hb : c.code = cc) (hK : MK D cI cL s) (h : va_at D CL (eL cL a n f) H) {i : Int32} (hin : vp_in i n) (hdg : decode cc pc = .ok (.laload, 1))
    (kk : W p l e R s m args below meth c H locs cells slots Q (F0 m (pc + 1) ls (.long (f i.toNatClampNeg) :: rest))) : W p l e R s m args below meth c H locs cells slots Q (F0 m pc ls (.int i :: .ref a :: rest)) :=
  va_lald hx hb hK (va_P1 h) 0 1 rfl rfl hin hdg kk
theorem n_alenI {a n : Nat} {f : Nat → Int32} (hx : p.tables.exec = Jvm.exec) (hb : c.code = cc) (hK : MK D cI cL s) (h : va_at D CL (eI cI a n f) H) (hdg : decode cc pc = .ok (.arraylength, 1))
    (kk : W p l e R s m args below meth c H locs cells slots Q (F0 m (pc + 1) ls (.int (nI n) :: rest))) : W p l e R s m args below meth c H locs cells slots Q (F0 m pc ls (.ref a :: rest)) :=
  va_alen hx hb hK (va_P1 h) 0 0 (x := (n, .inl f)) rfl rfl rfl hdg kk
theorem n_iast {a n j : Nat} {f : Nat → Int32} (hx : p.tables.exec = Jvm.exec) (hb : c.code = cc) (hK : MK D cI cL s) (hw : MW D RG N A s H locs) (h : N[j]? = some (eI cI a n f)) {i x : Int32} (hin : vp_in i n) (hdg : decode cc pc = .ok (.iastore, 1))
    (kk : ∀ (H1 : Heap) (locs1 : List Loc), MW D RG (N.set j (eI cI a n (upd f i.toNatClampNeg x))) A s H1 locs1 → W p l e R s m args below meth c H1 locs1 cells slots Q (F0 m (pc + 1) ls rest)) : W p l e R s m args below meth c H locs cells slots Q (F0 m pc ls (.int x :: .int i :: .ref a :: rest)) := by
  refine va_iast hx hb hK hw.1 hw.2.1 hw.2.2.1 (RG.length + j) 0 (f := f) (NAT h) rfl hin hdg (fun H1 locs1 hP hD hS => ?_)
  rw [set_r] at hP hD
  exact kk H1 locs1 ⟨hP, hD, hS, hw.2.2.2⟩
theorem n_last {a n j : Nat} {f : Nat → Int64} (hx : p.tables.exec = Jvm.exec) (hb : c.code = cc) (hK : MK D cI cL s) (hw : MW D RG N A s H locs) (h : N[j]? = some (eL cL a n f)) {i : Int32} {x : Int64} (hin : vp_in i n) (hdg : decode cc pc = .ok (.lastore, 1))
    (kk : ∀ (H1 : Heap) (locs1 : List Loc), MW D RG (N.set j (eL cL a n (vp_updL f i.toNatClampNeg x))) A s H1 locs1 → W p l e R s m args below meth c H1 locs1 cells slots Q (F0 m (pc + 1) ls rest)) : W p l e R s m args below meth c H locs cells slots Q (F0 m pc ls (.long x :: .int i :: .ref a :: rest)) := by
  refine va_last hx hb hK hw.1 hw.2.1 hw.2.2.1 (RG.length + j) 1 (f := f) (NAT h) rfl hin hdg (fun H1 locs1 hP hD hS => ?_)
  rw [set_r] at hP hD
  exact kk H1 locs1 ⟨hP, hD, hS, hw.2.2.2⟩
theorem n_newI {B : Nat} (hx : p.tables.exec = Jvm.exec) (hb : c.code = cc) (ht : ∀ w ∈ W0, w.before args s = true) (hq : Cond.arrayClass .int ∈ W0) (hK : MK D cI cL s) (hw : MW D RG N A s H locs) {n : Int32} (hn : ¬ n < 0 ∧ n.toNatClampNeg ≤ B) (hB : B ≤ 1000000) (hcells : cells + 1 ≤ R.cells) (hslots : slots + B ≤ R.slots) (hdg : decode cc pc = .ok (.newarray .int, 2))
    (kk : ∀ (q : Nat) (H1 : Heap), s.heap.size ≤ q → MW D RG (N ++ [eI cI q n.toNatClampNeg (fun _ => 0)]) A s H1 locs → W p l e R s m args below meth c H1 locs (cells + 1) (slots + B) Q (F0 m (pc + 2) ls (.ref q :: rest))) : W p l e R s m args below meth c H locs cells slots Q (F0 m pc ls (.int n :: rest)) := by
  refine va_newaK (atype := .int) hx hb (ht _ hq) rfl hdg rfl hn.1 rfl (Nat.le_trans (Nat.mul_le_mul_right _ (Nat.le_trans hn.2 hB)) (Nat.le_of_ble_eq_true rfl)) hcells (by omega) rfl (fun H1 cA e0 z1 o1 _ hNm => ?_)
  have e1 : cA = cI := Option.some.inj (hNm.symm.trans (hK.2 0 _ rfl).2)
  subst e1
  refine W.widen (Nat.le_refl _) (show slots + n.toNatClampNeg ≤ slots + B by omega) (kk H.size H1 hw.2.2.1.1 (MW.push (H0 := H) ⟨hw.1.kept (fun k q hk => o1 q.1 (hw.lt k q hk)), hw.2.1, ⟨Nat.le_trans hw.2.2.1.1 (by omega), fun x h1 h2 => (o1 x (Nat.lt_of_lt_of_le h1 hw.2.2.1.1)).trans (hw.2.2.1.2.1 x h1 h2), hw.2.2.1.2.2⟩, hw.2.2.2⟩ ?_ (Nat.le_refl _) hw.lt hw.2.2.1.1))
  exact e0
theorem n_newL {B : Nat} (hx : p.tables.exec = Jvm.exec) (hb : c.code = cc) (ht : ∀ w ∈ W0, w.before args s = true) (hq : Cond.arrayClass .long ∈ W0) (hK : MK D cI cL s) (hw : MW D RG N A s H locs) {n : Int32} (hn : ¬ n < 0 ∧ n.toNatClampNeg ≤ B) (hB : B ≤ 1000000) (hcells : cells + 1 ≤ R.cells) (hslots : slots + B ≤ R.slots) (hdg : decode cc pc = .ok (.newarray .long, 2))
    (kk : ∀ (q : Nat) (H1 : Heap), s.heap.size ≤ q → MW D RG (N ++ [eL cL q n.toNatClampNeg (fun _ => 0)]) A s H1 locs → W p l e R s m args below meth c H1 locs (cells + 1) (slots + B) Q (F0 m (pc + 2) ls (.ref q :: rest))) : W p l e R s m args below meth c H locs cells slots Q (F0 m pc ls (.int n :: rest)) := by
  refine va_newaK (atype := .long) hx hb (ht _ hq) rfl hdg rfl hn.1 rfl (Nat.le_trans (Nat.mul_le_mul_right _ (Nat.le_trans hn.2 hB)) (Nat.le_of_ble_eq_true rfl)) hcells (by omega) rfl (fun H1 cA e0 z1 o1 _ hNm => ?_)
  have e1 : cA = cL := Option.some.inj (hNm.symm.trans (hK.2 1 _ rfl).2)
  subst e1
  refine W.widen (Nat.le_refl _) (show slots + n.toNatClampNeg ≤ slots + B by omega) (kk H.size H1 hw.2.2.1.1 (MW.push (H0 := H) ⟨hw.1.kept (fun k q hk => o1 q.1 (hw.lt k q hk)), hw.2.1, ⟨Nat.le_trans hw.2.2.1.1 (by omega), fun x h1 h2 => (o1 x (Nat.lt_of_lt_of_le h1 hw.2.2.1.1)).trans (hw.2.2.1.2.1 x h1 h2), hw.2.2.1.2.2⟩, hw.2.2.2⟩ ?_ (Nat.le_refl _) hw.lt hw.2.2.1.1))
  exact e0
def SB (D : va_G) (cI cL : ClassId) (sz : Nat) (L0 : va_W) : State → Prop := fun U => U.heap.size = sz ∧ va_P D CL L0 U.heap ∧ MK D cI cL U
def MI (ad : Nat → Nat) : Prop := ∀ i j : Nat, i < 5 → j < 5 → ad i = ad j → i = j
def MB (D : va_G) (ad : Nat → Nat) (cI cL : ClassId) (sz : Nat) (μ : TMem) (L0 : va_W) : State → Prop := fun U => U.heap.size = sz ∧ va_P D CL (MR ad cI μ) U.heap ∧ va_P D CL L0 U.heap ∧ MK D cI cL U ∧ MI ad ∧ ∀ (j : Nat) (x : Nat × va_E), L0[j]? = some x → ∀ k, k < 5 → x.1 ≠ ad k
def ME (D : va_G) (ad : Nat → Nat) (cI : ClassId) : TMem → State → Prop := fun μ t => va_P D CL (MR ad cI μ) t.heap
abbrev AI : Type := Nat × (Nat → Int32)
abbrev AL : Type := Nat × (Nat → Int64)
theorem SB.blind {as : List Value} {sz : Nat} {L0 : va_W} : FrameBlind (va_Pc as (SB D cI cL sz L0)) := fun a U g mk q => ⟨q.1, q.2.1, q.2.2.1, va_K.moved (u := U) (U := U.calling g mk a) (Vm.Alike.refl U.vm) q.2.2.2⟩
theorem MB.blind {as : List Value} {sz : Nat} {L0 : va_W} : FrameBlind (va_Pc as (MB D ad cI cL sz μ L0)) := fun a U g mk q => ⟨q.1, q.2.1, q.2.2.1, q.2.2.2.1, va_K.moved (u := U) (U := U.calling g mk a) (Vm.Alike.refl U.vm) q.2.2.2.2.1, q.2.2.2.2.2⟩
theorem SB.pre {as : List Value} {L0 : va_W} (hK : MK D cI cL s) (h : va_P D CL L0 H) : ∀ U : State, U.heap = H → s.WarmedH U.vm → va_Pc as (SB D cI cL H.size L0) as.toArray U := fun U hU hW => ⟨rfl, by rw [hU], by rw [hU]; exact h, va_K.moved hW.alike hK⟩
theorem MB.pre {as : List Value} {L0 : va_W} (hK : MK D cI cL s) (hI : MI ad) (hw : MW D (MR ad cI μ) N A s H locs) (h : va_P D CL L0 H) (hne : ∀ (j : Nat) (x : Nat × va_E), L0[j]? = some x → ∀ k, k < 5 → x.1 ≠ ad k) : ∀ U : State, U.heap = H → s.WarmedH U.vm → va_Pc as (MB D ad cI cL H.size μ L0) as.toArray U := fun U hU hW => ⟨rfl, by rw [hU], by rw [hU]; exact fun k q hk => hw.1 k q (by rw [List.getElem?_append_left (List.getElem?_eq_some_iff.mp hk).1]; exact hk), by rw [hU]; exact h, va_K.moved hW.alike hK, hI, hne⟩
theorem MW.ne (hw : MW D (MR ad cI μ) N A s H locs) {j : Nat} {x : Nat × va_E} (h : N[j]? = some x) : ∀ k, k < 5 → x.1 ≠ ad k := fun k hk e => by
  have := hw.2.1.1 (5 + j) k x (ad k, ment ad cI (μ k) k) (by have := NAT (RG := MR ad cI μ) h; rw [MR_len] at this; exact this) (MRN hk) e
  omega
theorem ne0 : ∀ (j : Nat) (x : Nat × va_E), ([] : va_W)[j]? = some x → ∀ k, k < 5 → x.1 ≠ ad k := fun j x h => by simp at h
theorem neC {x : Nat × va_E} {L : va_W} (h : ∀ k, k < 5 → x.1 ≠ ad k) (hL : ∀ (j : Nat) (y : Nat × va_E), L[j]? = some y → ∀ k, k < 5 → y.1 ≠ ad k) : ∀ (j : Nat) (y : Nat × va_E), (x :: L)[j]? = some y → ∀ k, k < 5 → y.1 ≠ ad k := fun j y hy => by
  cases j with
  | zero => cases hy; exact h
  | succ i => exact hL i y hy
theorem M_recv (hK : MK D cI cL s) (hw : MW D (MR ad cI μ) N A s H locs) : ∃ cell : Cell, H[ad 0]? = some cell ∧ cell.vm.isStatics = false ∧ s.vm.findClass RX11 = some cell.cls := va_recv hK hw.1 cl_10 (MRN (by decide))
/-- results that are arrays: fresh, their cells -/
def QA (D : va_G) (cI : ClassId) (sz : Nat) (E : TMem → State → Prop) (A : Nat → Prop) (Q : Option AI → TMem → Prop) : Array Value → State → Outcome → State → Prop := va_Qq (fun (r : Option Nat) (u : Option (Nat × AI) × TMem) => r = u.1.map (·.1) ∧ (∀ x, u.1 = some x → sz ≤ x.1) ∧ Q (u.1.map (·.2)) u.2) (fun u t => E u.2 t ∧ ∀ x, u.1 = some x → va_at D CL (eI cI x.1 x.2.1 x.2.2) t.heap) A
def QL (D : va_G) (cL : ClassId) (sz : Nat) (E : TMem → State → Prop) (A : Nat → Prop) (Q : AL → TMem → Prop) : Array Value → State → Outcome → State → Prop := va_Qq (fun (r : Option Nat) (u : (Nat × AL) × TMem) => r = some u.1.1 ∧ sz ≤ u.1.1 ∧ Q u.1.2 u.2) (fun u t => E u.2 t ∧ va_at D CL (eL cL u.1.1 u.1.2.1 u.1.2.2) t.heap) A
def MMi (l : Launch) (y : MethodName) (cd : Cond) (h c n : Nat) (as : List Value) (D : va_G) (ad : Nat → Nat) (cI cL : ClassId) (sz : Nat) (μ : TMem) (L0 : va_W) (Q : Int32 → TMem → Prop) : Prop := Met l y (cd :: W0) (RA h c n) (va_Pc as (MB D ad cI cL sz μ L0)) (va_Qi Q (ME D ad cI) (MA ad sz)) c n (MA ad sz)
def SMi (l : Launch) (y : MethodName) (cd : Cond) (h c n : Nat) (as : List Value) (D : va_G) (cI cL : ClassId) (sz : Nat) (L0 : va_W) (Q : Int32 → Prop) : Prop := Met l y (cd :: W0) (RA h c n) (va_Pc as (SB D cI cL sz L0)) (va_Qi (fun r (_ : Unit) => Q r) (fun _ _ => True) (SA sz)) c n (SA sz)
def MMl (l : Launch) (y : MethodName) (cd : Cond) (h c n : Nat) (as : List Value) (D : va_G) (ad : Nat → Nat) (cI cL : ClassId) (sz : Nat) (μ : TMem) (L0 : va_W) (Q : Int64 → TMem → Prop) : Prop := Met l y (cd :: W0) (RA h c n) (va_Pc as (MB D ad cI cL sz μ L0)) (va_Ql Q (ME D ad cI) (MA ad sz)) c n (MA ad sz)
def SMl (l : Launch) (y : MethodName) (cd : Cond) (h c n : Nat) (as : List Value) (D : va_G) (cI cL : ClassId) (sz : Nat) (L0 : va_W) (Q : Int64 → Prop) : Prop := Met l y (cd :: W0) (RA h c n) (va_Pc as (SB D cI cL sz L0)) (va_Ql (fun r (_ : Unit) => Q r) (fun _ _ => True) (SA sz)) c n (SA sz)
def MMv (l : Launch) (y : MethodName) (cd : Cond) (h c n : Nat) (as : List Value) (D : va_G) (ad : Nat → Nat) (cI cL : ClassId) (sz : Nat) (μ : TMem) (L0 : va_W) (Q : TMem → Prop) : Prop := Met l y (cd :: W0) (RA h c n) (va_Pc as (MB D ad cI cL sz μ L0)) (va_Qv Q (ME D ad cI) (MA ad sz)) c n (MA ad sz)
def SMv (l : Launch) (y : MethodName) (cd : Cond) (h c n : Nat) (as : List Value) (D : va_G) (cI cL : ClassId) (sz : Nat) (L0 : va_W) (Q : Prop) : Prop := Met l y (cd :: W0) (RA h c n) (va_Pc as (SB D cI cL sz L0)) (va_Qv (fun (_ : Unit) => Q) (fun _ _ => True) (SA sz)) c n (SA sz)
def MMA (l : Launch) (y : MethodName) (cd : Cond) (h c n : Nat) (as : List Value) (D : va_G) (ad : Nat → Nat) (cI cL : ClassId) (sz : Nat) (μ : TMem) (L0 : va_W) (Q : Option AI → TMem → Prop) : Prop := Met l y (cd :: W0) (RA h c n) (va_Pc as (MB D ad cI cL sz μ L0)) (QA D cI sz (ME D ad cI) (MA ad sz) Q) c n (MA ad sz)
def SMA (l : Launch) (y : MethodName) (cd : Cond) (h c n : Nat) (as : List Value) (D : va_G) (cI cL : ClassId) (sz : Nat) (L0 : va_W) (Q : Option AI → Prop) : Prop := Met l y (cd :: W0) (RA h c n) (va_Pc as (SB D cI cL sz L0)) (QA D cI sz (fun _ _ => True) (SA sz) (fun r _ => Q r)) c n (SA sz)
def MML (l : Launch) (y : MethodName) (cd : Cond) (h c n : Nat) (as : List Value) (D : va_G) (ad : Nat → Nat) (cI cL : ClassId) (sz : Nat) (μ : TMem) (L0 : va_W) (Q : AL → TMem → Prop) : Prop := Met l y (cd :: W0) (RA h c n) (va_Pc as (MB D ad cI cL sz μ L0)) (QL D cL sz (ME D ad cI) (MA ad sz) Q) c n (MA ad sz)
def SML (l : Launch) (y : MethodName) (cd : Cond) (h c n : Nat) (as : List Value) (D : va_G) (cI cL : ClassId) (sz : Nat) (L0 : va_W) (Q : AL → Prop) : Prop := Met l y (cd :: W0) (RA h c n) (va_Pc as (SB D cI cL sz L0)) (QL D cL sz (fun _ _ => True) (SA sz) (fun r _ => Q r)) c n (SA sz)
variable {st0 : List Value} {a : Array Value} {mc ms : Nat}
theorem M_calli {Q1 : Int32 → TMem → Prop} (hw : MW D (MR ad cI μ) N A s H locs) (hA : ∀ q, MA ad H.size q → A q) (hr : va_Run p l e R s m args below meth c H locs cells slots mc ms (F0 m pc ls st0) rest (va_Qi Q1 (ME D ad cI) (MA ad H.size) a) (MA ad H.size))
    (kk : ∀ (r : Int32) (μ1 : TMem) (H1 : Heap) (locs1 : List Loc), Q1 r μ1 → MW D (MR ad cI μ1) N A s H1 locs1 → W p l e R s m args below meth c H1 locs1 (cells + mc) (slots + ms) Q (F0 m (pc + 3) ls (.int r :: rest))) : W p l e R s m args below meth c H locs cells slots Q (F0 m pc ls st0) :=
  va_calli hr hw.2.2.1 (fun q _ h => hA q h) (fun q h => hA q h) (fun r u t H1 locs1 ht _ hq hB _ hk hS => kk r u H1 locs1 hq (hw.keepM hk (by rw [← ht]; exact hB) hS))
theorem S_calli {Q1 : Int32 → Prop} (hw : MW D RG N A s H locs) (hr : va_Run p l e R s m args below meth c H locs cells slots mc ms (F0 m pc ls st0) rest (va_Qi (fun r (_ : Unit) => Q1 r) (fun _ _ => True) (SA H.size) a) (SA H.size))
    (kk : ∀ (r : Int32) (H1 : Heap) (locs1 : List Loc), Q1 r → MW D RG N A s H1 locs1 → W p l e R s m args below meth c H1 locs1 (cells + mc) (slots + ms) Q (F0 m (pc + 3) ls (.int r :: rest))) : W p l e R s m args below meth c H locs cells slots Q (F0 m pc ls st0) :=
  va_calli hr hw.2.2.1 (fun q _ h => hw.2.2.2 q (Nat.le_trans hw.2.2.1.1 h)) (fun q h => hw.2.2.2 q (Nat.le_trans hw.2.2.1.1 h)) (fun r u t H1 locs1 ht _ hq hB _ hk hS => kk r H1 locs1 hq (hw.keepS hk hS))
theorem M_calll {Q1 : Int64 → TMem → Prop} (hw : MW D (MR ad cI μ) N A s H locs) (hA : ∀ q, MA ad H.size q → A q) (hr : va_Run p l e R s m args below meth c H locs cells slots mc ms (F0 m pc ls st0) rest (va_Ql Q1 (ME D ad cI) (MA ad H.size) a) (MA ad H.size))
    (kk : ∀ (r : Int64) (μ1 : TMem) (H1 : Heap) (locs1 : List Loc), Q1 r μ1 → MW D (MR ad cI μ1) N A s H1 locs1 → W p l e R s m args below meth c H1 locs1 (cells + mc) (slots + ms) Q (F0 m (pc + 3) ls (.long r :: rest))) : W p l e R s m args below meth c H locs cells slots Q (F0 m pc ls st0) :=
  va_calll hr hw.2.2.1 (fun q _ h => hA q h) (fun q h => hA q h) (fun r u t H1 locs1 ht _ hq hB _ hk hS => kk r u H1 locs1 hq (hw.keepM hk (by rw [← ht]; exact hB) hS))
theorem S_calll {Q1 : Int64 → Prop} (hw : MW D RG N A s H locs) (hr : va_Run p l e R s m args below meth c H locs cells slots mc ms (F0 m pc ls st0) rest (va_Ql (fun r (_ : Unit) => Q1 r) (fun _ _ => True) (SA H.size) a) (SA H.size))
    (kk : ∀ (r : Int64) (H1 : Heap) (locs1 : List Loc), Q1 r → MW D RG N A s H1 locs1 → W p l e R s m args below meth c H1 locs1 (cells + mc) (slots + ms) Q (F0 m (pc + 3) ls (.long r :: rest))) : W p l e R s m args below meth c H locs cells slots Q (F0 m pc ls st0) :=
  va_calll hr hw.2.2.1 (fun q _ h => hw.2.2.2 q (Nat.le_trans hw.2.2.1.1 h)) (fun q h => hw.2.2.2 q (Nat.le_trans hw.2.2.1.1 h)) (fun r u t H1 locs1 ht _ hq hB _ hk hS => kk r H1 locs1 hq (hw.keepS hk hS))
theorem M_callv {Q1 : TMem → Prop} (hw : MW D (MR ad cI μ) N A s H locs) (hA : ∀ q, MA ad H.size q → A q) (hr : va_Run p l e R s m args below meth c H locs cells slots mc ms (F0 m pc ls st0) rest (va_Qv Q1 (ME D ad cI) (MA ad H.size) a) (MA ad H.size))
    (kk : ∀ (μ1 : TMem) (H1 : Heap) (locs1 : List Loc), Q1 μ1 → MW D (MR ad cI μ1) N A s H1 locs1 → W p l e R s m args below meth c H1 locs1 (cells + mc) (slots + ms) Q (F0 m (pc + 3) ls (rest))) : W p l e R s m args below meth c H locs cells slots Q (F0 m pc ls st0) :=
  va_callv hr hw.2.2.1 (fun q _ h => hA q h) (fun q h => hA q h) (fun u t H1 locs1 ht _ hq hB _ hk hS => kk u H1 locs1 hq (hw.keepM hk (by rw [← ht]; exact hB) hS))
theorem S_callv {Q1 : Prop} (hw : MW D RG N A s H locs) (hr : va_Run p l e R s m args below meth c H locs cells slots mc ms (F0 m pc ls st0) rest (va_Qv (fun (_ : Unit) => Q1) (fun _ _ => True) (SA H.size) a) (SA H.size))
    (kk : ∀ (H1 : Heap) (locs1 : List Loc), Q1  → MW D RG N A s H1 locs1 → W p l e R s m args below meth c H1 locs1 (cells + mc) (slots + ms) Q (F0 m (pc + 3) ls (rest))) : W p l e R s m args below meth c H locs cells slots Q (F0 m pc ls st0) :=
  va_callv hr hw.2.2.1 (fun q _ h => hw.2.2.2 q (Nat.le_trans hw.2.2.1.1 h)) (fun q h => hw.2.2.2 q (Nat.le_trans hw.2.2.1.1 h)) (fun u t H1 locs1 ht _ hq hB _ hk hS => kk H1 locs1 hq (hw.keepS hk hS))
theorem M_callA {Q1 : Option AI → TMem → Prop} (hw : MW D (MR ad cI μ) N A s H locs) (hA : ∀ q, MA ad H.size q → A q) (hr : va_Run p l e R s m args below meth c H locs cells slots mc ms (F0 m pc ls st0) rest (QA D cI H.size (ME D ad cI) (MA ad H.size) Q1 a) (MA ad H.size))
    (k0 : ∀ (μ1 : TMem) (H1 : Heap) (locs1 : List Loc), Q1 none μ1 → MW D (MR ad cI μ1) N A s H1 locs1 → W p l e R s m args below meth c H1 locs1 (cells + mc) (slots + ms) Q (F0 m (pc + 3) ls (.null :: rest)))
    (kk : ∀ (q n : Nat) (f : Nat → Int32) (μ1 : TMem) (H1 : Heap) (locs1 : List Loc), s.heap.size ≤ q → Q1 (some (n, f)) μ1 → MW D (MR ad cI μ1) (N ++ [eI cI q n f]) A s H1 locs1 → W p l e R s m args below meth c H1 locs1 (cells + mc) (slots + ms) Q (F0 m (pc + 3) ls (.ref q :: rest))) : W p l e R s m args below meth c H locs cells slots Q (F0 m pc ls st0) := by
  refine va_callq hr hw.2.2.1 (fun q _ h => hA q h) (fun q h => hA q h) (fun r u t H1 locs1 ht _ hq hB _ hk hS => ?_)
  obtain ⟨hr1, hf, hq⟩ := hq
  obtain ⟨u1, μ1⟩ := u
  have hw1 := hw.keepM hk (by rw [← ht]; exact hB.1) hS
  cases u1 with
  | none => subst hr1; exact k0 μ1 H1 locs1 hq hw1
  | some x => subst hr1; exact kk x.1 x.2.1 x.2.2 μ1 H1 locs1 (Nat.le_trans hw.2.2.1.1 (hf x rfl)) hq (hw1.push (H0 := H) (by rw [← ht]; exact hB.2 x rfl) (hf x rfl) (fun k q hk => by
      by_cases hi : k < 5
      · rw [MRN hi] at hk
        cases hk
        have h9 := hw.lt k (ad k, ment ad cI (μ k) k) (MRN hi)
        exact h9
      · rw [List.getElem?_append_right (by rw [MR_len]; omega), MR_len] at hk
        exact hw.lt k q (by rw [List.getElem?_append_right (by rw [MR_len]; omega), MR_len]; exact hk)) hw.2.2.1.1)
theorem S_callA {Q1 : Option AI → Prop} (hw : MW D RG N A s H locs) (hr : va_Run p l e R s m args below meth c H locs cells slots mc ms (F0 m pc ls st0) rest (QA D cI H.size (fun _ _ => True) (SA H.size) (fun r _ => Q1 r) a) (SA H.size))
    (k0 : ∀ (H1 : Heap) (locs1 : List Loc), Q1 none → MW D RG N A s H1 locs1 → W p l e R s m args below meth c H1 locs1 (cells + mc) (slots + ms) Q (F0 m (pc + 3) ls (.null :: rest)))
    (kk : ∀ (q n : Nat) (f : Nat → Int32) (H1 : Heap) (locs1 : List Loc), s.heap.size ≤ q → Q1 (some (n, f)) → MW D RG (N ++ [eI cI q n f]) A s H1 locs1 → W p l e R s m args below meth c H1 locs1 (cells + mc) (slots + ms) Q (F0 m (pc + 3) ls (.ref q :: rest))) : W p l e R s m args below meth c H locs cells slots Q (F0 m pc ls st0) := by
  refine va_callq hr hw.2.2.1 (fun q _ h => hw.2.2.2 q (Nat.le_trans hw.2.2.1.1 h)) (fun q h => hw.2.2.2 q (Nat.le_trans hw.2.2.1.1 h)) (fun r u t H1 locs1 ht _ hq hB _ hk hS => ?_)
  obtain ⟨hr1, hf, hq⟩ := hq
  obtain ⟨u1, μ1⟩ := u
  have hw1 := hw.keepS hk hS
  cases u1 with
  | none => subst hr1; exact k0 H1 locs1 hq hw1
  | some x => subst hr1; exact kk x.1 x.2.1 x.2.2 H1 locs1 (Nat.le_trans hw.2.2.1.1 (hf x rfl)) hq (hw1.push (H0 := H) (by rw [← ht]; exact hB.2 x rfl) (hf x rfl) hw.lt hw.2.2.1.1)
theorem M_callL {Q1 : AL → TMem → Prop} (hw : MW D (MR ad cI μ) N A s H locs) (hA : ∀ q, MA ad H.size q → A q) (hr : va_Run p l e R s m args below meth c H locs cells slots mc ms (F0 m pc ls st0) rest (QL D cL H.size (ME D ad cI) (MA ad H.size) Q1 a) (MA ad H.size))
    (kk : ∀ (q n : Nat) (f : Nat → Int64) (μ1 : TMem) (H1 : Heap) (locs1 : List Loc), s.heap.size ≤ q → Q1 (n, f) μ1 → MW D (MR ad cI μ1) (N ++ [eL cL q n f]) A s H1 locs1 → W p l e R s m args below meth c H1 locs1 (cells + mc) (slots + ms) Q (F0 m (pc + 3) ls (.ref q :: rest))) : W p l e R s m args below meth c H locs cells slots Q (F0 m pc ls st0) := by
  refine va_callq hr hw.2.2.1 (fun q _ h => hA q h) (fun q h => hA q h) (fun r u t H1 locs1 ht _ hq hB _ hk hS => ?_)
  obtain ⟨hr1, hf, hq⟩ := hq
  obtain ⟨x, μ1⟩ := u
  have hw1 := hw.keepM hk (by rw [← ht]; exact hB.1) hS
  subst hr1
  exact kk x.1 x.2.1 x.2.2 μ1 H1 locs1 (Nat.le_trans hw.2.2.1.1 hf) hq (hw1.push (H0 := H) (by rw [← ht]; exact hB.2) hf (fun k q hk => by
      by_cases hi : k < 5
      · rw [MRN hi] at hk
        cases hk
        have h9 := hw.lt k (ad k, ment ad cI (μ k) k) (MRN hi)
        exact h9
      · rw [List.getElem?_append_right (by rw [MR_len]; omega), MR_len] at hk
        exact hw.lt k q (by rw [List.getElem?_append_right (by rw [MR_len]; omega), MR_len]; exact hk)) hw.2.2.1.1)
theorem M_meti {l : Launch} {y : MethodName} {bytes : ByteArray} {maxL : Nat} {ty : FieldType} {h fc fn : Nat} {as : List Value} {D : va_G} {cI cL : ClassId} {sz : Nat} {L0 : va_W} {ad : Nat → Nat} {μ : TMem} {Q : Int32 → TMem → Prop} (hy : plainName y.cls = true) (hsl : (lg_sl as).length ≤ maxL)
    (body : ∀ (p : Program) (e : Env) (s : State) (m : MethodId) (below : List Frame) (meth : Method) (c : Code) (Z : State → Prop) (ls : Array Slot), p.tables.exec = Jvm.exec → c.code = bytes → c.maxLocals = maxL → s.vm.findClass y.cls = some m.cls → (∀ w ∈ W0, w.before as.toArray s = true) → MK D cI cL s → va_P D CL L0 s.heap → MI ad → (∀ (j : Nat) (x : Nat × va_E), L0[j]? = some x → ∀ k, k < 5 → x.1 ≠ ad k) → MW D (MR ad cI μ) [] (MA ad s.heap.size) s s.heap [] → (∀ (H : Heap) (locs : List Loc) (ls : Array Slot) (pc cells slots : Nat) (N : va_W) (v : Int32) (μ1 : TMem) , MW D (MR ad cI μ1) N (MA ad s.heap.size) s H locs → Q v μ1 → narrow ty (.int v) = .int v → cells ≤ fc → slots ≤ fn → decode bytes pc = .ok (.ireturn, 1) → W p l e (RA h fc fn) s m as.toArray below meth c H locs cells slots Z (F0 m pc ls [.int v])) → lv_has ls maxL (lv_args 0 as) →
      W p l e (RA h fc fn) s m as.toArray below meth c s.heap [] 0 0 Z (F0 m 0 ls [])) : MMi l y (.code y bytes maxL (some ty)) h fc fn as D ad cI cL sz μ L0 Q := by
  refine Met.ofW (cc := bytes) (maxL := maxL) (ret := (some ty)) hy rfl ?_
  intro p e s m args below meth c s₁ B hml hv
  obtain ⟨rfl, hsz, hP, hP0, hK, hI, hne⟩ := hv
  subst hsz
  have hts := atoms_spec B.pre
  have hlocks := B.notSynchronized
  rw [lg_entry_eq]
  exact body p e s m below meth c _ _ B.exec B.bytes hml (findClass_of_methodNamed B.named) (fun w hw => hts w (List.mem_cons_of_mem _ hw)) hK hP0 hI hne ⟨by rw [List.append_nil]; exact hP, by rw [List.append_nil]; exact ⟨fun i j x y hx hy e => by obtain ⟨h1, rfl⟩ := MR_of hx; obtain ⟨h2, rfl⟩ := MR_of hy; exact hI i j h1 h2 e, fun k x hx => by obtain ⟨h1, rfl⟩ := MR_of hx; exact Or.inl ⟨k, h1, rfl⟩⟩, va_S.rf, fun q h => Or.inr h⟩ (fun H locs ls pc cells slots N v μ1 hw hq hn hc hs hdg => W.widen hc hs (W.zret B.exec B.bytes B.returns hn (fun t ht9 hW => ⟨⟨v, μ1, rfl, hq, by show va_P D CL (MR ad cI μ1) t.heap; rw [ht9]; exact fun k q hk => hw.1 k q (by rw [List.getElem?_append_left (List.getElem?_eq_some_iff.mp hk).1]; exact hk)⟩, hw.2.2.1.F ht9⟩) hw.2.2.1.2.2 hdg hlocks)) (lv_entry as hsl)
theorem M_metl {l : Launch} {y : MethodName} {bytes : ByteArray} {maxL : Nat} {h fc fn : Nat} {as : List Value} {D : va_G} {cI cL : ClassId} {sz : Nat} {L0 : va_W} {ad : Nat → Nat} {μ : TMem} {Q : Int64 → TMem → Prop} (hy : plainName y.cls = true) (hsl : (lg_sl as).length ≤ maxL)
    (body : ∀ (p : Program) (e : Env) (s : State) (m : MethodId) (below : List Frame) (meth : Method) (c : Code) (Z : State → Prop) (ls : Array Slot), p.tables.exec = Jvm.exec → c.code = bytes → c.maxLocals = maxL → s.vm.findClass y.cls = some m.cls → (∀ w ∈ W0, w.before as.toArray s = true) → MK D cI cL s → va_P D CL L0 s.heap → MI ad → (∀ (j : Nat) (x : Nat × va_E), L0[j]? = some x → ∀ k, k < 5 → x.1 ≠ ad k) → MW D (MR ad cI μ) [] (MA ad s.heap.size) s s.heap [] → (∀ (H : Heap) (locs : List Loc) (ls : Array Slot) (pc cells slots : Nat) (N : va_W) (v : Int64) (μ1 : TMem) , MW D (MR ad cI μ1) N (MA ad s.heap.size) s H locs → Q v μ1 → cells ≤ fc → slots ≤ fn → decode bytes pc = .ok (.lreturn, 1) → W p l e (RA h fc fn) s m as.toArray below meth c H locs cells slots Z (F0 m pc ls [.long v])) → lv_has ls maxL (lv_args 0 as) →
      W p l e (RA h fc fn) s m as.toArray below meth c s.heap [] 0 0 Z (F0 m 0 ls [])) : MMl l y (.code y bytes maxL (some .long)) h fc fn as D ad cI cL sz μ L0 Q := by
  refine Met.ofW (cc := bytes) (maxL := maxL) (ret := (some .long)) hy rfl ?_
  intro p e s m args below meth c s₁ B hml hv
  obtain ⟨rfl, hsz, hP, hP0, hK, hI, hne⟩ := hv
  subst hsz
  have hts := atoms_spec B.pre
  have hlocks := B.notSynchronized
  rw [lg_entry_eq]
  exact body p e s m below meth c _ _ B.exec B.bytes hml (findClass_of_methodNamed B.named) (fun w hw => hts w (List.mem_cons_of_mem _ hw)) hK hP0 hI hne ⟨by rw [List.append_nil]; exact hP, by rw [List.append_nil]; exact ⟨fun i j x y hx hy e => by obtain ⟨h1, rfl⟩ := MR_of hx; obtain ⟨h2, rfl⟩ := MR_of hy; exact hI i j h1 h2 e, fun k x hx => by obtain ⟨h1, rfl⟩ := MR_of hx; exact Or.inl ⟨k, h1, rfl⟩⟩, va_S.rf, fun q h => Or.inr h⟩ (fun H locs ls pc cells slots N v μ1 hw hq hc hs hdg => W.widen hc hs (W.lret B.exec B.bytes B.returns (fun t ht9 hW => ⟨⟨v, μ1, rfl, hq, by show va_P D CL (MR ad cI μ1) t.heap; rw [ht9]; exact fun k q hk => hw.1 k q (by rw [List.getElem?_append_left (List.getElem?_eq_some_iff.mp hk).1]; exact hk)⟩, hw.2.2.1.F ht9⟩) hw.2.2.1.2.2 hdg hlocks)) (lv_entry as hsl)
theorem M_metv {l : Launch} {y : MethodName} {bytes : ByteArray} {maxL : Nat} {h fc fn : Nat} {as : List Value} {D : va_G} {cI cL : ClassId} {sz : Nat} {L0 : va_W} {ad : Nat → Nat} {μ : TMem} {Q : TMem → Prop} (hy : plainName y.cls = true) (hsl : (lg_sl as).length ≤ maxL)
    (body : ∀ (p : Program) (e : Env) (s : State) (m : MethodId) (below : List Frame) (meth : Method) (c : Code) (Z : State → Prop) (ls : Array Slot), p.tables.exec = Jvm.exec → c.code = bytes → c.maxLocals = maxL → s.vm.findClass y.cls = some m.cls → (∀ w ∈ W0, w.before as.toArray s = true) → MK D cI cL s → va_P D CL L0 s.heap → MI ad → (∀ (j : Nat) (x : Nat × va_E), L0[j]? = some x → ∀ k, k < 5 → x.1 ≠ ad k) → MW D (MR ad cI μ) [] (MA ad s.heap.size) s s.heap [] → (∀ (H : Heap) (locs : List Loc) (ls : Array Slot) (pc cells slots : Nat) (N : va_W) (μ1 : TMem) , MW D (MR ad cI μ1) N (MA ad s.heap.size) s H locs → Q μ1 → cells ≤ fc → slots ≤ fn → decode bytes pc = .ok (.return_, 1) → W p l e (RA h fc fn) s m as.toArray below meth c H locs cells slots Z (F0 m pc ls [])) → lv_has ls maxL (lv_args 0 as) →
      W p l e (RA h fc fn) s m as.toArray below meth c s.heap [] 0 0 Z (F0 m 0 ls [])) : MMv l y (.code y bytes maxL none) h fc fn as D ad cI cL sz μ L0 Q := by
  refine Met.ofW (cc := bytes) (maxL := maxL) (ret := none) hy rfl ?_
  intro p e s m args below meth c s₁ B hml hv
  obtain ⟨rfl, hsz, hP, hP0, hK, hI, hne⟩ := hv
  subst hsz
  have hts := atoms_spec B.pre
  have hlocks := B.notSynchronized
  rw [lg_entry_eq]
  exact body p e s m below meth c _ _ B.exec B.bytes hml (findClass_of_methodNamed B.named) (fun w hw => hts w (List.mem_cons_of_mem _ hw)) hK hP0 hI hne ⟨by rw [List.append_nil]; exact hP, by rw [List.append_nil]; exact ⟨fun i j x y hx hy e => by obtain ⟨h1, rfl⟩ := MR_of hx; obtain ⟨h2, rfl⟩ := MR_of hy; exact hI i j h1 h2 e, fun k x hx => by obtain ⟨h1, rfl⟩ := MR_of hx; exact Or.inl ⟨k, h1, rfl⟩⟩, va_S.rf, fun q h => Or.inr h⟩ (fun H locs ls pc cells slots N μ1 hw hq hc hs hdg => W.widen hc hs (W.vret B.exec B.bytes B.returns (fun t ht9 hW => ⟨⟨μ1, rfl, hq, by show va_P D CL (MR ad cI μ1) t.heap; rw [ht9]; exact fun k q hk => hw.1 k q (by rw [List.getElem?_append_left (List.getElem?_eq_some_iff.mp hk).1]; exact hk)⟩, hw.2.2.1.F ht9⟩) hw.2.2.1.2.2 hdg hlocks)) (lv_entry as hsl)
theorem M_metA {l : Launch} {y : MethodName} {bytes : ByteArray} {maxL : Nat} {h fc fn : Nat} {as : List Value} {D : va_G} {cI cL : ClassId} {sz : Nat} {L0 : va_W} {ad : Nat → Nat} {μ : TMem} {Q : Option AI → TMem → Prop} (hy : plainName y.cls = true) (hsl : (lg_sl as).length ≤ maxL)
    (body : ∀ (p : Program) (e : Env) (s : State) (m : MethodId) (below : List Frame) (meth : Method) (c : Code) (Z : State → Prop) (ls : Array Slot), p.tables.exec = Jvm.exec → c.code = bytes → c.maxLocals = maxL → s.vm.findClass y.cls = some m.cls → (∀ w ∈ W0, w.before as.toArray s = true) → MK D cI cL s → va_P D CL L0 s.heap → MI ad → (∀ (j : Nat) (x : Nat × va_E), L0[j]? = some x → ∀ k, k < 5 → x.1 ≠ ad k) → MW D (MR ad cI μ) [] (MA ad s.heap.size) s s.heap [] → (∀ (H : Heap) (locs : List Loc) (ls : Array Slot) (pc cells slots : Nat) (N : va_W) (j q n : Nat) (f : Nat → Int32) (μ1 : TMem) , MW D (MR ad cI μ1) N (MA ad s.heap.size) s H locs → N[j]? = some (eI cI q n f) → s.heap.size ≤ q → Q (some (n, f)) μ1 → cells ≤ fc → slots ≤ fn → decode bytes pc = .ok (.areturn, 1) → W p l e (RA h fc fn) s m as.toArray below meth c H locs cells slots Z (F0 m pc ls [.ref q])) → (∀ (H : Heap) (locs : List Loc) (ls : Array Slot) (pc cells slots : Nat) (N : va_W) (μ1 : TMem) , MW D (MR ad cI μ1) N (MA ad s.heap.size) s H locs → Q none μ1 → cells ≤ fc → slots ≤ fn → decode bytes pc = .ok (.areturn, 1) → W p l e (RA h fc fn) s m as.toArray below meth c H locs cells slots Z (F0 m pc ls [.null])) → lv_has ls maxL (lv_args 0 as) →
      W p l e (RA h fc fn) s m as.toArray below meth c s.heap [] 0 0 Z (F0 m 0 ls [])) : MMA l y (.code y bytes maxL (some (.array .int))) h fc fn as D ad cI cL sz μ L0 Q := by
  refine Met.ofW (cc := bytes) (maxL := maxL) (ret := (some (.array .int))) hy rfl ?_
  intro p e s m args below meth c s₁ B hml hv
  obtain ⟨rfl, hsz, hP, hP0, hK, hI, hne⟩ := hv
  subst hsz
  have hts := atoms_spec B.pre
  have hlocks := B.notSynchronized
  rw [lg_entry_eq]
  exact body p e s m below meth c _ _ B.exec B.bytes hml (findClass_of_methodNamed B.named) (fun w hw => hts w (List.mem_cons_of_mem _ hw)) hK hP0 hI hne ⟨by rw [List.append_nil]; exact hP, by rw [List.append_nil]; exact ⟨fun i j x y hx hy e => by obtain ⟨h1, rfl⟩ := MR_of hx; obtain ⟨h2, rfl⟩ := MR_of hy; exact hI i j h1 h2 e, fun k x hx => by obtain ⟨h1, rfl⟩ := MR_of hx; exact Or.inl ⟨k, h1, rfl⟩⟩, va_S.rf, fun q h => Or.inr h⟩ (fun H locs ls pc cells slots N j q n f μ1 hw hj hf hq hc hs hdg => W.widen hc hs (W.aret B.exec B.bytes B.returns (Or.inr ⟨_, rfl⟩) (Or.inr ⟨_, rfl⟩) (fun t ht9 hW => ⟨⟨some q, (some (q, n, f), μ1), rfl, ⟨rfl, (fun x hx => by cases hx; exact hf), hq⟩, by show va_P D CL (MR ad cI μ1) t.heap; rw [ht9]; exact fun k q hk => hw.1 k q (by rw [List.getElem?_append_left (List.getElem?_eq_some_iff.mp hk).1]; exact hk), (fun x hx => by cases hx; rw [ht9]; exact hw.n hj)⟩, hw.2.2.1.F ht9⟩) hw.2.2.1.2.2 hdg hlocks)) (fun H locs ls pc cells slots N μ1 hw hq hc hs hdg => W.widen hc hs (W.aret B.exec B.bytes B.returns (Or.inr ⟨_, rfl⟩) (Or.inl rfl) (fun t ht9 hW => ⟨⟨none, (none, μ1), rfl, ⟨rfl, (fun x hx => nomatch hx), hq⟩, by show va_P D CL (MR ad cI μ1) t.heap; rw [ht9]; exact fun k q hk => hw.1 k q (by rw [List.getElem?_append_left (List.getElem?_eq_some_iff.mp hk).1]; exact hk), (fun x hx => nomatch hx)⟩, hw.2.2.1.F ht9⟩) hw.2.2.1.2.2 hdg hlocks)) (lv_entry as hsl)
theorem M_metL {l : Launch} {y : MethodName} {bytes : ByteArray} {maxL : Nat} {h fc fn : Nat} {as : List Value} {D : va_G} {cI cL : ClassId} {sz : Nat} {L0 : va_W} {ad : Nat → Nat} {μ : TMem} {Q : AL → TMem → Prop} (hy : plainName y.cls = true) (hsl : (lg_sl as).length ≤ maxL)
    (body : ∀ (p : Program) (e : Env) (s : State) (m : MethodId) (below : List Frame) (meth : Method) (c : Code) (Z : State → Prop) (ls : Array Slot), p.tables.exec = Jvm.exec → c.code = bytes → c.maxLocals = maxL → s.vm.findClass y.cls = some m.cls → (∀ w ∈ W0, w.before as.toArray s = true) → MK D cI cL s → va_P D CL L0 s.heap → MI ad → (∀ (j : Nat) (x : Nat × va_E), L0[j]? = some x → ∀ k, k < 5 → x.1 ≠ ad k) → MW D (MR ad cI μ) [] (MA ad s.heap.size) s s.heap [] → (∀ (H : Heap) (locs : List Loc) (ls : Array Slot) (pc cells slots : Nat) (N : va_W) (j q n : Nat) (f : Nat → Int64) (μ1 : TMem) , MW D (MR ad cI μ1) N (MA ad s.heap.size) s H locs → N[j]? = some (eL cL q n f) → s.heap.size ≤ q → Q (n, f) μ1 → cells ≤ fc → slots ≤ fn → decode bytes pc = .ok (.areturn, 1) → W p l e (RA h fc fn) s m as.toArray below meth c H locs cells slots Z (F0 m pc ls [.ref q])) → lv_has ls maxL (lv_args 0 as) →
      W p l e (RA h fc fn) s m as.toArray below meth c s.heap [] 0 0 Z (F0 m 0 ls [])) : MML l y (.code y bytes maxL (some (.array .long))) h fc fn as D ad cI cL sz μ L0 Q := by
  refine Met.ofW (cc := bytes) (maxL := maxL) (ret := (some (.array .long))) hy rfl ?_
  intro p e s m args below meth c s₁ B hml hv
  obtain ⟨rfl, hsz, hP, hP0, hK, hI, hne⟩ := hv
  subst hsz
  have hts := atoms_spec B.pre
  have hlocks := B.notSynchronized
  rw [lg_entry_eq]
  exact body p e s m below meth c _ _ B.exec B.bytes hml (findClass_of_methodNamed B.named) (fun w hw => hts w (List.mem_cons_of_mem _ hw)) hK hP0 hI hne ⟨by rw [List.append_nil]; exact hP, by rw [List.append_nil]; exact ⟨fun i j x y hx hy e => by obtain ⟨h1, rfl⟩ := MR_of hx; obtain ⟨h2, rfl⟩ := MR_of hy; exact hI i j h1 h2 e, fun k x hx => by obtain ⟨h1, rfl⟩ := MR_of hx; exact Or.inl ⟨k, h1, rfl⟩⟩, va_S.rf, fun q h => Or.inr h⟩ (fun H locs ls pc cells slots N j q n f μ1 hw hj hf hq hc hs hdg => W.widen hc hs (W.aret B.exec B.bytes B.returns (Or.inr ⟨_, rfl⟩) (Or.inr ⟨_, rfl⟩) (fun t ht9 hW => ⟨⟨some q, ((q, n, f), μ1), rfl, ⟨rfl, hf, hq⟩, by show va_P D CL (MR ad cI μ1) t.heap; rw [ht9]; exact fun k q hk => hw.1 k q (by rw [List.getElem?_append_left (List.getElem?_eq_some_iff.mp hk).1]; exact hk), by rw [ht9]; exact hw.n hj⟩, hw.2.2.1.F ht9⟩) hw.2.2.1.2.2 hdg hlocks)) (lv_entry as hsl)
theorem S_meti {l : Launch} {y : MethodName} {bytes : ByteArray} {maxL : Nat} {ty : FieldType} {h fc fn : Nat} {as : List Value} {D : va_G} {cI cL : ClassId} {sz : Nat} {L0 : va_W} {Q : Int32 → Prop} (hy : plainName y.cls = true) (hsl : (lg_sl as).length ≤ maxL)
    (body : ∀ (p : Program) (e : Env) (s : State) (m : MethodId) (below : List Frame) (meth : Method) (c : Code) (Z : State → Prop) (ls : Array Slot), p.tables.exec = Jvm.exec → c.code = bytes → c.maxLocals = maxL → s.vm.findClass y.cls = some m.cls → (∀ w ∈ W0, w.before as.toArray s = true) → MK D cI cL s → va_P D CL L0 s.heap → MW D [] [] (SA s.heap.size) s s.heap [] → (∀ (H : Heap) (locs : List Loc) (ls : Array Slot) (pc cells slots : Nat) (N : va_W) (v : Int32) , MW D [] N (SA s.heap.size) s H locs → Q v → narrow ty (.int v) = .int v → cells ≤ fc → slots ≤ fn → decode bytes pc = .ok (.ireturn, 1) → W p l e (RA h fc fn) s m as.toArray below meth c H locs cells slots Z (F0 m pc ls [.int v])) → lv_has ls maxL (lv_args 0 as) →
      W p l e (RA h fc fn) s m as.toArray below meth c s.heap [] 0 0 Z (F0 m 0 ls [])) : SMi l y (.code y bytes maxL (some ty)) h fc fn as D cI cL sz L0 Q := by
  refine Met.ofW (cc := bytes) (maxL := maxL) (ret := (some ty)) hy rfl ?_
  intro p e s m args below meth c s₁ B hml hv
  obtain ⟨rfl, hsz, hP0, hK⟩ := hv
  subst hsz
  have hts := atoms_spec B.pre
  have hlocks := B.notSynchronized
  rw [lg_entry_eq]
  exact body p e s m below meth c _ _ B.exec B.bytes hml (findClass_of_methodNamed B.named) (fun w hw => hts w (List.mem_cons_of_mem _ hw)) hK hP0 ⟨va_P0, ⟨fun i j x y hx => by simp at hx, fun k x hx => by simp at hx⟩, va_S.rf, fun q h => h⟩ (fun H locs ls pc cells slots N v hw hq hn hc hs hdg => W.widen hc hs (W.zret B.exec B.bytes B.returns hn (fun t ht9 hW => ⟨⟨v, (), rfl, hq, trivial⟩, hw.2.2.1.F ht9⟩) hw.2.2.1.2.2 hdg hlocks)) (lv_entry as hsl)
theorem S_metl {l : Launch} {y : MethodName} {bytes : ByteArray} {maxL : Nat} {h fc fn : Nat} {as : List Value} {D : va_G} {cI cL : ClassId} {sz : Nat} {L0 : va_W} {Q : Int64 → Prop} (hy : plainName y.cls = true) (hsl : (lg_sl as).length ≤ maxL)
    (body : ∀ (p : Program) (e : Env) (s : State) (m : MethodId) (below : List Frame) (meth : Method) (c : Code) (Z : State → Prop) (ls : Array Slot), p.tables.exec = Jvm.exec → c.code = bytes → c.maxLocals = maxL → s.vm.findClass y.cls = some m.cls → (∀ w ∈ W0, w.before as.toArray s = true) → MK D cI cL s → va_P D CL L0 s.heap → MW D [] [] (SA s.heap.size) s s.heap [] → (∀ (H : Heap) (locs : List Loc) (ls : Array Slot) (pc cells slots : Nat) (N : va_W) (v : Int64) , MW D [] N (SA s.heap.size) s H locs → Q v → cells ≤ fc → slots ≤ fn → decode bytes pc = .ok (.lreturn, 1) → W p l e (RA h fc fn) s m as.toArray below meth c H locs cells slots Z (F0 m pc ls [.long v])) → lv_has ls maxL (lv_args 0 as) →
      W p l e (RA h fc fn) s m as.toArray below meth c s.heap [] 0 0 Z (F0 m 0 ls [])) : SMl l y (.code y bytes maxL (some .long)) h fc fn as D cI cL sz L0 Q := by
  refine Met.ofW (cc := bytes) (maxL := maxL) (ret := (some .long)) hy rfl ?_
  intro p e s m args below meth c s₁ B hml hv
  obtain ⟨rfl, hsz, hP0, hK⟩ := hv
  subst hsz
  have hts := atoms_spec B.pre
  have hlocks := B.notSynchronized
  rw [lg_entry_eq]
  exact body p e s m below meth c _ _ B.exec B.bytes hml (findClass_of_methodNamed B.named) (fun w hw => hts w (List.mem_cons_of_mem _ hw)) hK hP0 ⟨va_P0, ⟨fun i j x y hx => by simp at hx, fun k x hx => by simp at hx⟩, va_S.rf, fun q h => h⟩ (fun H locs ls pc cells slots N v hw hq hc hs hdg => W.widen hc hs (W.lret B.exec B.bytes B.returns (fun t ht9 hW => ⟨⟨v, (), rfl, hq, trivial⟩, hw.2.2.1.F ht9⟩) hw.2.2.1.2.2 hdg hlocks)) (lv_entry as hsl)
theorem S_metv {l : Launch} {y : MethodName} {bytes : ByteArray} {maxL : Nat} {h fc fn : Nat} {as : List Value} {D : va_G} {cI cL : ClassId} {sz : Nat} {L0 : va_W} {Q : Prop} (hy : plainName y.cls = true) (hsl : (lg_sl as).length ≤ maxL)
    (body : ∀ (p : Program) (e : Env) (s : State) (m : MethodId) (below : List Frame) (meth : Method) (c : Code) (Z : State → Prop) (ls : Array Slot), p.tables.exec = Jvm.exec → c.code = bytes → c.maxLocals = maxL → s.vm.findClass y.cls = some m.cls → (∀ w ∈ W0, w.before as.toArray s = true) → MK D cI cL s → va_P D CL L0 s.heap → MW D [] [] (SA s.heap.size) s s.heap [] → (∀ (H : Heap) (locs : List Loc) (ls : Array Slot) (pc cells slots : Nat) (N : va_W) , MW D [] N (SA s.heap.size) s H locs → Q → cells ≤ fc → slots ≤ fn → decode bytes pc = .ok (.return_, 1) → W p l e (RA h fc fn) s m as.toArray below meth c H locs cells slots Z (F0 m pc ls [])) → lv_has ls maxL (lv_args 0 as) →
      W p l e (RA h fc fn) s m as.toArray below meth c s.heap [] 0 0 Z (F0 m 0 ls [])) : SMv l y (.code y bytes maxL none) h fc fn as D cI cL sz L0 Q := by
  refine Met.ofW (cc := bytes) (maxL := maxL) (ret := none) hy rfl ?_
  intro p e s m args below meth c s₁ B hml hv
  obtain ⟨rfl, hsz, hP0, hK⟩ := hv
  subst hsz
  have hts := atoms_spec B.pre
  have hlocks := B.notSynchronized
  rw [lg_entry_eq]
  exact body p e s m below meth c _ _ B.exec B.bytes hml (findClass_of_methodNamed B.named) (fun w hw => hts w (List.mem_cons_of_mem _ hw)) hK hP0 ⟨va_P0, ⟨fun i j x y hx => by simp at hx, fun k x hx => by simp at hx⟩, va_S.rf, fun q h => h⟩ (fun H locs ls pc cells slots N hw hq hc hs hdg => W.widen hc hs (W.vret B.exec B.bytes B.returns (fun t ht9 hW => ⟨⟨(), rfl, hq, trivial⟩, hw.2.2.1.F ht9⟩) hw.2.2.1.2.2 hdg hlocks)) (lv_entry as hsl)
theorem S_metA {l : Launch} {y : MethodName} {bytes : ByteArray} {maxL : Nat} {h fc fn : Nat} {as : List Value} {D : va_G} {cI cL : ClassId} {sz : Nat} {L0 : va_W} {Q : Option AI → Prop} (hy : plainName y.cls = true) (hsl : (lg_sl as).length ≤ maxL)
    (body : ∀ (p : Program) (e : Env) (s : State) (m : MethodId) (below : List Frame) (meth : Method) (c : Code) (Z : State → Prop) (ls : Array Slot), p.tables.exec = Jvm.exec → c.code = bytes → c.maxLocals = maxL → s.vm.findClass y.cls = some m.cls → (∀ w ∈ W0, w.before as.toArray s = true) → MK D cI cL s → va_P D CL L0 s.heap → MW D [] [] (SA s.heap.size) s s.heap [] → (∀ (H : Heap) (locs : List Loc) (ls : Array Slot) (pc cells slots : Nat) (N : va_W) (j q n : Nat) (f : Nat → Int32) , MW D [] N (SA s.heap.size) s H locs → N[j]? = some (eI cI q n f) → s.heap.size ≤ q → Q (some (n, f)) → cells ≤ fc → slots ≤ fn → decode bytes pc = .ok (.areturn, 1) → W p l e (RA h fc fn) s m as.toArray below meth c H locs cells slots Z (F0 m pc ls [.ref q])) → (∀ (H : Heap) (locs : List Loc) (ls : Array Slot) (pc cells slots : Nat) (N : va_W) , MW D [] N (SA s.heap.size) s H locs → Q none → cells ≤ fc → slots ≤ fn → decode bytes pc = .ok (.areturn, 1) → W p l e (RA h fc fn) s m as.toArray below meth c H locs cells slots Z (F0 m pc ls [.null])) → lv_has ls maxL (lv_args 0 as) →
      W p l e (RA h fc fn) s m as.toArray below meth c s.heap [] 0 0 Z (F0 m 0 ls [])) : SMA l y (.code y bytes maxL (some (.array .int))) h fc fn as D cI cL sz L0 Q := by
  refine Met.ofW (cc := bytes) (maxL := maxL) (ret := (some (.array .int))) hy rfl ?_
  intro p e s m args below meth c s₁ B hml hv
  obtain ⟨rfl, hsz, hP0, hK⟩ := hv
  subst hsz
  have hts := atoms_spec B.pre
  have hlocks := B.notSynchronized
  rw [lg_entry_eq]
  exact body p e s m below meth c _ _ B.exec B.bytes hml (findClass_of_methodNamed B.named) (fun w hw => hts w (List.mem_cons_of_mem _ hw)) hK hP0 ⟨va_P0, ⟨fun i j x y hx => by simp at hx, fun k x hx => by simp at hx⟩, va_S.rf, fun q h => h⟩ (fun H locs ls pc cells slots N j q n f hw hj hf hq hc hs hdg => W.widen hc hs (W.aret B.exec B.bytes B.returns (Or.inr ⟨_, rfl⟩) (Or.inr ⟨_, rfl⟩) (fun t ht9 hW => ⟨⟨some q, (some (q, n, f), (fun _ _ => 0)), rfl, ⟨rfl, (fun x hx => by cases hx; exact hf), hq⟩, trivial, (fun x hx => by cases hx; rw [ht9]; exact hw.n hj)⟩, hw.2.2.1.F ht9⟩) hw.2.2.1.2.2 hdg hlocks)) (fun H locs ls pc cells slots N hw hq hc hs hdg => W.widen hc hs (W.aret B.exec B.bytes B.returns (Or.inr ⟨_, rfl⟩) (Or.inl rfl) (fun t ht9 hW => ⟨⟨none, (none, (fun _ _ => 0)), rfl, ⟨rfl, (fun x hx => nomatch hx), hq⟩, trivial, (fun x hx => nomatch hx)⟩, hw.2.2.1.F ht9⟩) hw.2.2.1.2.2 hdg hlocks)) (lv_entry as hsl)
theorem S_metL {l : Launch} {y : MethodName} {bytes : ByteArray} {maxL : Nat} {h fc fn : Nat} {as : List Value} {D : va_G} {cI cL : ClassId} {sz : Nat} {L0 : va_W} {Q : AL → Prop} (hy : plainName y.cls = true) (hsl : (lg_sl as).length ≤ maxL)
    (body : ∀ (p : Program) (e : Env) (s : State) (m : MethodId) (below : List Frame) (meth : Method) (c : Code) (Z : State → Prop) (ls : Array Slot), p.tables.exec = Jvm.exec → c.code = bytes → c.maxLocals = maxL → s.vm.findClass y.cls = some m.cls → (∀ w ∈ W0, w.before as.toArray s = true) → MK D cI cL s → va_P D CL L0 s.heap → MW D [] [] (SA s.heap.size) s s.heap [] → (∀ (H : Heap) (locs : List Loc) (ls : Array Slot) (pc cells slots : Nat) (N : va_W) (j q n : Nat) (f : Nat → Int64) , MW D [] N (SA s.heap.size) s H locs → N[j]? = some (eL cL q n f) → s.heap.size ≤ q → Q (n, f) → cells ≤ fc → slots ≤ fn → decode bytes pc = .ok (.areturn, 1) → W p l e (RA h fc fn) s m as.toArray below meth c H locs cells slots Z (F0 m pc ls [.ref q])) → lv_has ls maxL (lv_args 0 as) →
      W p l e (RA h fc fn) s m as.toArray below meth c s.heap [] 0 0 Z (F0 m 0 ls [])) : SML l y (.code y bytes maxL (some (.array .long))) h fc fn as D cI cL sz L0 Q := by
  refine Met.ofW (cc := bytes) (maxL := maxL) (ret := (some (.array .long))) hy rfl ?_
  intro p e s m args below meth c s₁ B hml hv
  obtain ⟨rfl, hsz, hP0, hK⟩ := hv
  subst hsz
  have hts := atoms_spec B.pre
  have hlocks := B.notSynchronized
  rw [lg_entry_eq]
  exact body p e s m below meth c _ _ B.exec B.bytes hml (findClass_of_methodNamed B.named) (fun w hw => hts w (List.mem_cons_of_mem _ hw)) hK hP0 ⟨va_P0, ⟨fun i j x y hx => by simp at hx, fun k x hx => by simp at hx⟩, va_S.rf, fun q h => h⟩ (fun H locs ls pc cells slots N j q n f hw hj hf hq hc hs hdg => W.widen hc hs (W.aret B.exec B.bytes B.returns (Or.inr ⟨_, rfl⟩) (Or.inr ⟨_, rfl⟩) (fun t ht9 hW => ⟨⟨some q, ((q, n, f), (fun _ _ => 0)), rfl, ⟨rfl, hf, hq⟩, trivial, by rw [ht9]; exact hw.n hj⟩, hw.2.2.1.F ht9⟩) hw.2.2.1.2.2 hdg hlocks)) (lv_entry as hsl)
end MLB
