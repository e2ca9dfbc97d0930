/-! part 60.mlib -/
section
section MLB
def mll : List Nat := [0, 4, 4, 4, 84]
def ml (k : Nat) : Nat := mll.getD k 0
def ment (ad : Nat → Nat) (cI : ClassId) (f : Nat → Int32) (k : Nat) : va_E := match k with
  | 0 => .inr (10, [.ref (ad 1), .ref (ad 2), .ref (ad 3), .ref (ad 4), .int (f 4), .int (f 5), .int (f 6), .int (f 7)])
  | j + 1 => .inl (cI, ml (j + 1), .inl f)
theorem ment_a {ad : Nat → Nat} {cI : ClassId} {f : Nat → Int32} {k : Nat} (h : 1 ≤ k) : ment ad cI f k = .inl (cI, ml k, .inl f) := by
  cases k with
  | zero => omega
  | succ j => rfl
def MR (ad : Nat → Nat) (cI : ClassId) (μ : TMem) : va_W := (List.range 5).map fun k => (ad k, ment ad cI (μ k) k)
theorem MR_len {ad : Nat → Nat} {cI : ClassId} {μ : TMem} : (MR ad cI μ).length = 5 := by simp [MR]
theorem MR_at {ad : Nat → Nat} {cI : ClassId} {μ : TMem} {k : Nat} (hk : k < 5) : (MR ad cI μ)[k]? = some (ad k, ment ad cI (μ k) k) := by
  simp [MR, List.getElem?_map, List.getElem?_range hk]
theorem MR_of {ad : Nat → Nat} {cI : ClassId} {μ : TMem} {k : Nat} {x : Nat × va_E} (h : (MR ad cI μ)[k]? = some x) : k < 5 ∧ x = (ad k, ment ad cI (μ k) k) := by
  rcases Nat.lt_or_ge k 5 with q | q
  · rw [MR_at q] at h
    exact ⟨q, (Option.some.inj h).symm⟩
  · rw [List.getElem?_eq_none (by rw [MR_len]; exact q)] at h
    cases h
theorem MR_set {ad : Nat → Nat} {cI : ClassId} {μ : TMem} {k i : Nat} {v : Int32} (hk : k < 5) : (MR ad cI μ).set k (ad k, ment ad cI (upd (μ k) i v) k) = MR ad cI (tms μ k i v) := by
  apply List.ext_getElem?
  intro j
  by_cases hj : j < 5
  · by_cases e : k = j
    · subst e
      rw [MR_at hk, List.getElem?_set_self (by rw [MR_len]; exact hk)]
      simp [tms]
    · rw [List.getElem?_set_ne e, MR_at hj, MR_at hj]
      simp [tms, Ne.symm e]
  · rw [List.getElem?_eq_none (by simp [MR]; omega), List.getElem?_eq_none (by rw [MR_len]; omega)]
def MK (D : va_G) (cI cL : ClassId) (U : State) : Prop := va_K D CL [(cI, .int), (cL, .long)] U
def MW (D : va_G) (RG N : va_W) (A : Nat → Prop) (s : State) (H : Heap) (locs : List Loc) : Prop := va_P D CL (RG ++ N) H ∧ va_D A (RG ++ N) ∧ va_S A s.heap H locs ∧ ∀ q, s.heap.size ≤ q → A q
def MA (ad : Nat → Nat) (sz : Nat) : Nat → Prop := fun q => (∃ k : Nat, k < 5 ∧ q = ad k) ∨ sz ≤ q
def SA (sz : Nat) : Nat → Prop := fun q => sz ≤ q
abbrev eI (cI : ClassId) (a n : Nat) (f : Nat → Int32) : Nat × va_E := (a, .inl (cI, n, .inl f))
abbrev eL (cL : ClassId) (a n : Nat) (f : Nat → Int64) : Nat × va_E := (a, .inl (cL, n, .inr (.inl f)))
abbrev RA (h c n : Nat) : Room := { frames := h, cells := c, slots := n, locals := 40 * h }
variable {p : Program} {l : Launch} {e : Env} {R : Room} {s : State} {m : MethodId} {args : Array Value} {below : List Frame} {meth : Method} {c : Code} {H : Heap} {locs : List Loc} {cells slots : Nat} {Q : State → Prop}
variable {cc : ByteArray} {pc : Nat} {ls : Array Slot} {rest : List Value} {D : va_G} {ad : Nat → Nat} {cI cL : ClassId} {μ : TMem} {k : Nat} {RG N : va_W} {A : Nat → Prop}
theorem MRN (hk : k < 5) : (MR ad cI μ ++ N)[k]? = some (ad k, ment ad cI (μ k) k) := by
  rw [List.getElem?_append_left (by rw [MR_len]; exact hk), MR_at hk]
theorem NAT {j : Nat} {x : Nat × va_E} (h : N[j]? = some x) : (RG ++ N)[RG.length + j]? = some x := by
  rw [List.getElem?_append_right (by omega), show RG.length + j - RG.length = j by omega]
  exact h
theorem va_P1 {x : Nat × va_E} (h : va_at D CL x H) : va_P D CL [x] H := fun k q hq => by
  cases k with
  | zero => cases hq; exact h
  | succ j => simp at hq
theorem va_Pc2 {x : Nat × va_E} {L : va_W} (h : va_at D CL x H) (hL : va_P D CL L H) : va_P D CL (x :: L) H := fun k q hq => by
  cases k with
  | zero => cases hq; exact h
  | succ j => exact hL j q hq
theorem va_P0 : va_P D CL [] H := fun k q hq => by simp at hq
theorem va_Ph {x : Nat × va_E} {L : va_W} (h : va_P D CL (x :: L) H) : va_at D CL x H := h 0 x rfl
theorem va_Pt {x : Nat × va_E} {L : va_W} (h : va_P D CL (x :: L) H) : va_P D CL L H := fun k q hq => h (k + 1) q hq
theorem set_r {L : va_W} {j : Nat} {x : Nat × va_E} : (RG ++ L).set (RG.length + j) x = RG ++ L.set j x := by
  rw [List.set_append_right (RG.length + j) x (by omega), show RG.length + j - RG.length = j by omega]
theorem set_l {j : Nat} {x : Nat × va_E} (h : j < RG.length) : (RG ++ N).set j x = RG.set j x ++ N := List.set_append_left j x h
theorem MW.n (hw : MW D RG N A s H locs) {j : Nat} {x : Nat × va_E} (h : N[j]? = some x) : va_at D CL x H := hw.1 _ _ (NAT h)
theorem MW.arg (hw : MW D RG N A s H locs) {x : Nat × va_E} (h : va_at D CL x s.heap) (hn : ¬ A x.1) : va_at D CL x H := h.kept (hw.2.2.1.2.1 _ h.lt hn)
theorem MW.sub (hw : MW D RG N A s H locs) {N' : va_W} (is : List Nat) (hn : va_nd is = true) (hs : is.map (fun i => N[i]?) = N'.map some) : MW D RG N' A s H locs := by
  have g : ∀ (j : Nat) (q : Nat × va_E), N'[j]? = some q → ∃ i, is[j]? = some i ∧ N[i]? = some q := by
    intro j q hq
    have h1 : (is.map (fun i => N[i]?))[j]? = some (some q) := by rw [hs, List.getElem?_map, hq]; rfl
    rw [List.getElem?_map] at h1
    cases hi : is[j]? with
    | none => rw [hi] at h1; cases h1
    | some i => rw [hi] at h1; exact ⟨i, rfl, Option.some.inj h1⟩
  have hR : va_D A RG := ⟨fun i j x y hx hy e => hw.2.1.1 i j x y (by rw [List.getElem?_append_left (List.getElem?_eq_some_iff.mp hx).1]; exact hx) (by rw [List.getElem?_append_left (List.getElem?_eq_some_iff.mp hy).1]; exact hy) e, fun k q hk => hw.2.1.2 k q (by rw [List.getElem?_append_left (List.getElem?_eq_some_iff.mp hk).1]; exact hk)⟩
  have hN : va_D A N := ⟨fun i j x y hx hy e => by
    have := hw.2.1.1 _ _ x y (NAT (RG := RG) hx) (NAT (RG := RG) hy) e
    omega, fun k q hk => hw.2.1.2 _ q (NAT hk)⟩
  refine ⟨va_P.app (fun k q hk => hw.1 k q (by rw [List.getElem?_append_left (List.getElem?_eq_some_iff.mp hk).1]; exact hk)) (fun k q hk => ?_), va_D.app hR (hN.sub is hn hs) (fun i j x y hx hy e => ?_), hw.2.2⟩
  · obtain ⟨i, -, h2⟩ := g k q hk
    exact hw.1 _ _ (NAT h2)
  · obtain ⟨i2, -, h2⟩ := g j y hy
    have hl := (List.getElem?_eq_some_iff.mp hx).1
    have := hw.2.1.1 i (RG.length + i2) x y (by rw [List.getElem?_append_left hl]; exact hx) (NAT h2) e
    omega
theorem MW.push (hw : MW D RG N A s H locs) {x : Nat × va_E} {H0 : Heap} (h : va_at D CL x H) (hf : H0.size ≤ x.1) (h0 : ∀ (k : Nat) (q : Nat × va_E), (RG ++ N)[k]? = some q → q.1 < H0.size) (hs : s.heap.size ≤ H0.size) : MW D RG (N ++ [x]) A s H locs := by
  refine ⟨?_, ?_, hw.2.2⟩
  · rw [← List.append_assoc]
    exact hw.1.app (va_P1 h)
  · rw [← List.append_assoc]
    refine va_D.app hw.2.1 ⟨fun i j p q hp hq _ => ?_, fun k q hk => ?_⟩ (fun i j p q hp hq e => ?_)
    · have := (List.getElem?_eq_some_iff.mp hp).1
      have := (List.getElem?_eq_some_iff.mp hq).1
      simp at *
      omega
    · have h1 := (List.getElem?_eq_some_iff.mp hk).1
      have h2 : k = 0 := by simp at h1; omega
      subst h2
      cases hk
      exact hw.2.2.2 _ (by omega)
    · have h1 := (List.getElem?_eq_some_iff.mp hq).1
      have h2 : j = 0 := by simp at h1; omega
      subst h2
      cases hq
      have := h0 i p hp
      omega
theorem MW.lt (hw : MW D RG N A s H locs) : ∀ (k : Nat) (q : Nat × va_E), (RG ++ N)[k]? = some q → q.1 < H.size := fun k q h => (hw.1 k q h).lt
/-- behind a call that changes nothing old -/
theorem MW.keepS (hw : MW D RG N A s H locs) {H1 : Heap} {locs1 : List Loc} (hk : ∀ q : Nat, q < H.size → ¬ SA H.size q → H1[q]? = H[q]?) (hS : va_S A s.heap H1 locs1) : MW D RG N A s H1 locs1 :=
  ⟨hw.1.kept (fun k q h => hk q.1 (hw.lt k q h) (fun z => absurd (hw.lt k q h) (Nat.not_lt.mpr z))), hw.2.1, hS, hw.2.2.2⟩
/-- behind a call that changes the region -/
theorem MW.keepM (hw : MW D (MR ad cI μ) N A s H locs) {μ1 : TMem} {H1 : Heap} {locs1 : List Loc} (hk : ∀ q : Nat, q < H.size → ¬ MA ad H.size q → H1[q]? = H[q]?) (hP : va_P D CL (MR ad cI μ1) H1) (hS : va_S A s.heap H1 locs1) : MW D (MR ad cI μ1) N A s H1 locs1 := by
  refine ⟨hP.app (fun k q h => (hw.1 _ _ (NAT h)).kept (hk q.1 (hw.lt _ _ (NAT h)) (fun z => ?_))), ⟨fun i j x y hx hy e => ?_, fun k q h => ?_⟩, hS, hw.2.2.2⟩
  · rcases z with ⟨i, hi, e⟩ | z
    · have := hw.2.1.1 (5 + k) i q (ad i, ment ad cI (μ i) i) (by have := NAT (RG := MR ad cI μ) h; rw [MR_len] at this; exact this) (MRN hi) e
      omega
    · exact absurd (hw.lt _ _ (NAT h)) (Nat.not_lt.mpr z)
  · have tr : ∀ (i : Nat) (x : Nat × va_E), (MR ad cI μ1 ++ N)[i]? = some x → ∃ x' : Nat × va_E, (MR ad cI μ ++ N)[i]? = some x' ∧ x'.1 = x.1 := by
      intro i x hx
      by_cases hi : i < 5
      · rw [MRN hi] at hx
        cases hx
        exact ⟨_, MRN hi, rfl⟩
      · rw [List.getElem?_append_right (by rw [MR_len]; omega), MR_len] at hx
        exact ⟨x, by rw [List.getElem?_append_right (by rw [MR_len]; omega), MR_len]; exact hx, rfl⟩
    obtain ⟨x', h1, e1⟩ := tr i x hx
    obtain ⟨y', h2, e2⟩ := tr j y hy
    exact hw.2.1.1 i j x' y' h1 h2 (by rw [e1, e2]; exact e)
  · by_cases hi : k < 5
    · rw [MRN hi] at h
      cases h
      have h9 := hw.2.1.2 k (ad k, ment ad cI (μ k) k) (MRN hi)
      exact h9
    · rw [List.getElem?_append_right (by rw [MR_len]; omega), MR_len] at h
      exact hw.2.1.2 k q (by rw [List.getElem?_append_right (by rw [MR_len]; omega), MR_len]; exact h)
theorem MA.up {sz1 sz2 : Nat} (h : sz1 ≤ sz2) : ∀ q, MA ad sz2 q → MA ad sz1 q := fun q h9 => h9.elim Or.inl (fun z => Or.inr (Nat.le_trans h z))
theorem m_get (hx : p.tables.exec = Jvm.exec) (hb : c.code = cc) (ht : ∀ w ∈ W0, w.before args s = true) {index i : Nat} (hown : s.vm.findClass "LeastreaderModel" = some m.cls) (hK : MK D cI cL s) (hw : MW D (MR ad cI μ) N A s H locs) (hi : i < 8) (hlink : (Cond.fieldLink "LeastreaderModel" index "LeastreaderModel" (TX11 i).2.1 (TX11 i).2.2.1).before args s = true) (hd : (TX11 i).1 = "LeastreaderModel") {v : Value} (hv : ([.ref (ad 1), .ref (ad 2), .ref (ad 3), .ref (ad 4), .int (μ 0 4), .int (μ 0 5), .int (μ 0 6), .int (μ 0 7)] : List Value)[i]? = some v) (hdg : decode cc pc = .ok (.getfield index, 3))
    (kk : W p l e R s m args below meth c H locs cells slots Q (F0 m (pc + 3) ls (v :: rest))) : W p l e R s m args below meth c H locs cells slots Q (F0 m pc ls (.ref (ad 0) :: rest)) :=
  va_get hx hb ht in_10 hown hK hw.1 0 (MRN (by decide)) cl_10 i hi hlink (fun x h => by rw [hd] at h; exact h) hv hdg kk
theorem m_put (hx : p.tables.exec = Jvm.exec) (hb : c.code = cc) (ht : ∀ w ∈ W0, w.before args s = true) {index i : Nat} (hown : s.vm.findClass "LeastreaderModel" = some m.cls) (hK : MK D cI cL s) (hw : MW D (MR ad cI μ) N A s H locs) (hi : i < 8) (hi4 : 4 ≤ i) (hlink : (Cond.fieldLink "LeastreaderModel" index "LeastreaderModel" (TX11 i).2.1 (TX11 i).2.2.1).before args s = true) (hd : (TX11 i).1 = "LeastreaderModel") (hfin : (TX11 i).2.2.2 = false) {v : Int32} (hde : parseFieldDescriptor (TX11 i).2.2.1 = some .int) (hdg : decode cc pc = .ok (.putfield index, 3))
    (kk : ∀ (H1 : Heap) (locs1 : List Loc), MW D (MR ad cI (tms μ 0 i v)) N A s H1 locs1 → W p l e R s m args below meth c H1 locs1 cells slots Q (F0 m (pc + 3) ls rest)) : W p l e R s m args below meth c H locs cells slots Q (F0 m pc ls (.int v :: .ref (ad 0) :: rest)) := by
  have he : ment ad cI (upd (μ 0) i v) 0 = .inr (10, ([.ref (ad 1), .ref (ad 2), .ref (ad 3), .ref (ad 4), .int (μ 0 4), .int (μ 0 5), .int (μ 0 6), .int (μ 0 7)] : List Value).set i (.int v)) := by
    rcases (show i = 4 ∨ i = 5 ∨ i = 6 ∨ i = 7 by omega) with rfl | rfl | rfl | rfl <;> rfl
  refine va_put hx hb ht in_10 tyX11 tyX11_ok nmX11 hown hK hw.1 hw.2.1 hw.2.2.1 0 (MRN (by decide)) cl_10 i hi hlink (fun x h => by rw [hd] at h; exact h) hfin hde rfl rfl hi hdg (fun H1 locs1 hP hD hS => ?_)
  rw [← he, set_l (by rw [MR_len]; decide), MR_set (by decide)] at hP hD
  exact kk H1 locs1 ⟨hP, hD, hS, hw.2.2.2⟩
theorem m_iald (hx : p.tables.exec = Jvm.exec) (hb : c.code = cc) (hK : MK D cI cL s) (hw : MW D (MR ad cI μ) N A s H locs) (hk : 1 ≤ k ∧ k < 5) {i : Int32} (hin : vp_in i (ml k)) (hdg : decode cc pc = .ok (.iaload, 1))
    (kk : W p l e R s m args below meth c H locs cells slots Q (F0 m (pc + 1) ls (.int (μ k i.toNatClampNeg) :: rest))) : W p l e R s m args below meth c H locs cells slots Q (F0 m pc ls (.int i :: .ref (ad k) :: rest)) :=
  va_iald hx hb hK hw.1 k 0 (by rw [MRN hk.2, ment_a hk.1]) rfl hin hdg kk
theorem m_iast (hx : p.tables.exec = Jvm.exec) (hb : c.code = cc) (hK : MK D cI cL s) (hw : MW D (MR ad cI μ) N A s H locs) (hk : 1 ≤ k ∧ k < 5) {i x : Int32} (hin : vp_in i (ml k)) (hdg : decode cc pc = .ok (.iastore, 1))
    (kk : ∀ (H1 : Heap) (locs1 : List Loc), MW D (MR ad cI (tms μ k i.toNatClampNeg x)) N A s H1 locs1 → W p l e R s m args below meth c H1 locs1 cells slots Q (F0 m (pc + 1) ls rest)) : W p l e R s m args below meth c H locs cells slots Q (F0 m pc ls (.int x :: .int i :: .ref (ad k) :: rest)) := by
  refine va_iast hx hb hK hw.1 hw.2.1 hw.2.2.1 k 0 (f := μ k) (by rw [MRN hk.2, ment_a hk.1]) rfl hin hdg (fun H1 locs1 hP hD hS => ?_)
  rw [← ment_a (ad := ad) (cI := cI) (f := upd (μ k) i.toNatClampNeg x) hk.1, set_l (by rw [MR_len]; exact hk.2), MR_set hk.2] at hP hD
  exact kk H1 locs1 ⟨hP, hD, hS, hw.2.2.2⟩
theorem n_iald {a n : Nat} {f : Nat → Int32} (hx : p.tables.exec = Jvm.exec) (hb : c.code = cc) (hK : MK D cI cL s) (h : va_at D CL (eI cI a n f) H) {i : Int32} (hin : vp_in i n) (hdg : decode cc pc = .ok (.iaload, 1))
    (kk : W p l e R s m args below meth c H locs cells slots Q (F0 m (pc + 1) ls (.int (f i.toNatClampNeg) :: rest))) : W p l e R s m args below meth c H locs cells slots Q (F0 m pc ls (.int i :: .ref a :: rest)) :=
  va_iald hx hb hK (va_P1 h) 0 0 rfl rfl hin hdg kk
theorem n_lald {a n : Nat} {f : Nat → Int64} (hx : p.tables.exec = Jvm.exec) (hb : c.code = cc) (hK : MK D cI cL s) (h : va_at D CL (eL cL a n f) H) {i : Int32} (hin : vp_in i n) (hdg : decode cc pc = .ok (.laload, 1))
    (kk : W p l e R s m args below meth c H locs cells slots Q (F0 m (pc + 1) ls (.long (f i.toNatClampNeg) :: rest))) : W p l e R s m args below meth c H locs cells slots Q (F0 m pc ls (.int i :: .ref a :: rest)) :=
  va_lald hx hb hK (va_P1 h) 0 1 rfl rfl hin hdg kk
theorem n_alenI {a n : Nat} {f : Nat → Int32} (hx : p.tables.exec = Jvm.exec) (hb : c.code = cc) (hK : MK D cI cL s) (h : va_at D CL (eI cI a n f) H) (hdg : decode cc pc = .ok (.arraylength, 1))
    (kk : W p l e R s m args below meth c H locs cells slots Q (F0 m (pc + 1) ls (.int (nI n) :: rest))) : W p l e R s m args below meth c H locs cells slots Q (F0 m pc ls (.ref a :: rest)) :=
  va_alen hx hb hK (va_P1 h) 0 0 (x := (n, .inl f)) rfl rfl rfl hdg kk
theorem n_iast {a n j : Nat} {f : Nat → Int32} (hx : p.tables.exec = Jvm.exec) (hb : c.code = cc) (hK : MK D cI cL s) (hw : MW D RG N A s H locs) (h : N[j]? = some (eI cI a n f)) {i x : Int32} (hin : vp_in i n) (hdg : decode cc pc = .ok (.iastore, 1))
    (kk : ∀ (H1 : Heap) (locs1 : List Loc), MW D RG (N.set j (eI cI a n (upd f i.toNatClampNeg x))) A s H1 locs1 → W p l e R s m args below meth c H1 locs1 cells slots Q (F0 m (pc + 1) ls rest)) : W p l e R s m args below meth c H locs cells slots Q (F0 m pc ls (.int x :: .int i :: .ref a :: rest)) := by
  refine va_iast hx hb hK hw.1 hw.2.1 hw.2.2.1 (RG.length + j) 0 (f := f) (NAT h) rfl hin hdg (fun H1 locs1 hP hD hS => ?_)
  rw [set_r] at hP hD
  exact kk H1 locs1 ⟨hP, hD, hS, hw.2.2.2⟩
theorem n_last {a n j : Nat} {f : Nat → Int64} (hx : p.tables.exec = Jvm.exec) (hb : c.code = cc) (hK : MK D cI cL s) (hw : MW D RG N A s H locs) (h : N[j]? = some (eL cL a n f)) {i : Int32} {x : Int64} (hin : vp_in i n) (hdg : decode cc pc = .ok (.lastore, 1))
    (kk : ∀ (H1 : Heap) (locs1 : List Loc), MW D RG (N.set j (eL cL a n (vp_updL f i.toNatClampNeg x))) A s H1 locs1 → W p l e R s m args below meth c H1 locs1 cells slots Q (F0 m (pc + 1) ls rest)) : W p l e R s m args below meth c H locs cells slots Q (F0 m pc ls (.long x :: .int i :: .ref a :: rest)) := by
  refine va_last hx hb hK hw.1 hw.2.1 hw.2.2.1 (RG.length + j) 1 (f := f) (NAT h) rfl hin hdg (fun H1 locs1 hP hD hS => ?_)
  rw [set_r] at hP hD
  exact kk H1 locs1 ⟨hP, hD, hS, hw.2.2.2⟩
theorem n_newI {B : Nat} (hx : p.tables.exec = Jvm.exec) (hb : c.code = cc) (ht : ∀ w ∈ W0, w.before args s = true) (hq : Cond.arrayClass .int ∈ W0) (hK : MK D cI cL s) (hw : MW D RG N A s H locs) {n : Int32} (hn : ¬ n < 0 ∧ n.toNatClampNeg ≤ B) (hB : B ≤ 1000000) (hcells : cells + 1 ≤ R.cells) (hslots : slots + B ≤ R.slots) (hdg : decode cc pc = .ok (.newarray .int, 2))
    (kk : ∀ (q : Nat) (H1 : Heap), s.heap.size ≤ q → MW D RG (N ++ [eI cI q n.toNatClampNeg (fun _ => 0)]) A s H1 locs → W p l e R s m args below meth c H1 locs (cells + 1) (slots + B) Q (F0 m (pc + 2) ls (.ref q :: rest))) : W p l e R s m args below meth c H locs cells slots Q (F0 m pc ls (.int n :: rest)) := by
  refine va_newaK (atype := .int) hx hb (ht _ hq) rfl hdg rfl hn.1 rfl (Nat.le_trans (Nat.mul_le_mul_right _ (Nat.le_trans hn.2 hB)) (Nat.le_of_ble_eq_true rfl)) hcells (by omega) rfl (fun H1 cA e0 z1 o1 _ hNm => ?_)
  have e1 : cA = cI := Option.some.inj (hNm.symm.trans (hK.2 0 _ rfl).2)
  subst e1
  refine W.widen (Nat.le_refl _) (show slots + n.toNatClampNeg ≤ slots + B by omega) (kk H.size H1 hw.2.2.1.1 (MW.push (H0 := H) ⟨hw.1.kept (fun k q hk => o1 q.1 (hw.lt k q hk)), hw.2.1, ⟨Nat.le_trans hw.2.2.1.1 (by omega), fun x h1 h2 => (o1 x (Nat.lt_of_lt_of_le h1 hw.2.2.1.1)).trans (hw.2.2.1.2.1 x h1 h2), hw.2.2.1.2.2⟩, hw.2.2.2⟩ ?_ (Nat.le_refl _) hw.lt hw.2.2.1.1))
  exact e0
theorem n_newL {B : Nat} (hx : p.tables.exec = Jvm.exec) (hb : c.code = cc) (ht : ∀ w ∈ W0, w.before args s = true) (hq : Cond.arrayClass .long ∈ W0) (hK : MK D cI cL s) (hw : MW D RG N A s H locs) {n : Int32} (hn : ¬ n < 0 ∧ n.toNatClampNeg ≤ B) (hB : B ≤ 1000000) (hcells : cells + 1 ≤ R.cells) (hslots : slots + B ≤ R.slots) (hdg : decode cc pc = .ok (.newarray .long, 2))
    (kk : ∀ (q : Nat) (H1 : Heap), s.heap.size ≤ q → MW D RG (N ++ [eL cL q n.toNatClampNeg (fun _ => 0)]) A s H1 locs → W p l e R s m args below meth c H1 locs (cells + 1) (slots + B) Q (F0 m (pc + 2) ls (.ref q :: rest))) : W p l e R s m args below meth c H locs cells slots Q (F0 m pc ls (.int n :: rest)) := by
  refine va_newaK (atype := .long) hx hb (ht _ hq) rfl hdg rfl hn.1 rfl (Nat.le_trans (Nat.mul_le_mul_right _ (Nat.le_trans hn.2 hB)) (Nat.le_of_ble_eq_true rfl)) hcells (by omega) rfl (fun H1 cA e0 z1 o1 _ hNm => ?_)
  have e1 : cA = cL := Option.some.inj (hNm.symm.trans (hK.2 1 _ rfl).2)
  subst e1
  refine W.widen (Nat.le_refl _) (show slots + n.toNatClampNeg ≤ slots + B by omega) (kk H.size H1 hw.2.2.1.1 (MW.push (H0 := H) ⟨hw.1.kept (fun k q hk => o1 q.1 (hw.lt k q hk)), hw.2.1, ⟨Nat.le_trans hw.2.2.1.1 (by omega), fun x h1 h2 => (o1 x (Nat.lt_of_lt_of_le h1 hw.2.2.1.1)).trans (hw.2.2.1.2.1 x h1 h2), hw.2.2.1.2.2⟩, hw.2.2.2⟩ ?_ (Nat.le_refl _) hw.lt hw.2.2.1.1))
  exact e0
def SB (D : va_G) (cI cL : ClassId) (sz : Nat) (L0 : va_W) : State → Prop := fun U => U.heap.size = sz ∧ va_P D CL L0 U.heap ∧ MK D cI cL U
def MI (ad : Nat → Nat) : Prop := ∀ i j : Nat, i < 5 → j < 5 → ad i = ad j → i = j
def MB (D : va_G) (ad : Nat → Nat) (cI cL : ClassId) (sz : Nat) (μ : TMem) (L0 : va_W) : State → Prop := fun U => U.heap.size = sz ∧ va_P D CL (MR ad cI μ) U.heap ∧ va_P D CL L0 U.heap ∧ MK D cI cL U ∧ MI ad ∧ ∀ (j : Nat) (x : Nat × va_E), L0[j]? = some x → ∀ k, k < 5 → x.1 ≠ ad k
def ME (D : va_G) (ad : Nat → Nat) (cI : ClassId) : TMem → State → Prop := fun μ t => va_P D CL (MR ad cI μ) t.heap
abbrev AI : Type := Nat × (Nat → Int32)
abbrev AL : Type := Nat × (Nat → Int64)
theorem SB.blind {as : List Value} {sz : Nat} {L0 : va_W} : FrameBlind (va_Pc as (SB D cI cL sz L0)) := fun a U g mk q => ⟨q.1, q.2.1, q.2.2.1, va_K.moved (u := U) (U := U.calling g mk a) (Vm.Alike.refl U.vm) q.2.2.2⟩
theorem MB.blind {as : List Value} {sz : Nat} {L0 : va_W} : FrameBlind (va_Pc as (MB D ad cI cL sz μ L0)) := fun a U g mk q => ⟨q.1, q.2.1, q.2.2.1, q.2.2.2.1, va_K.moved (u := U) (U := U.calling g mk a) (Vm.Alike.refl U.vm) q.2.2.2.2.1, q.2.2.2.2.2⟩
theorem SB.pre {as : List Value} {L0 : va_W} (hK : MK D cI cL s) (h : va_P D CL L0 H) : ∀ U : State, U.heap = H → s.WarmedH U.vm → va_Pc as (SB D cI cL H.size L0) as.toArray U := fun U hU hW => ⟨rfl, by rw [hU], by rw [hU]; exact h, va_K.moved hW.alike hK⟩
theorem MB.pre {as : List Value} {L0 : va_W} (hK : MK D cI cL s) (hI : MI ad) (hw : MW D (MR ad cI μ) N A s H locs) (h : va_P D CL L0 H) (hne : ∀ (j : Nat) (x : Nat × va_E), L0[j]? = some x → ∀ k, k < 5 → x.1 ≠ ad k) : ∀ U : State, U.heap = H → s.WarmedH U.vm → va_Pc as (MB D ad cI cL H.size μ L0) as.toArray U := fun U hU hW => ⟨rfl, by rw [hU], by rw [hU]; exact fun k q hk => hw.1 k q (by rw [List.getElem?_append_left (List.getElem?_eq_some_iff.mp hk).1]; exact hk), by rw [hU]; exact h, va_K.moved hW.alike hK, hI, hne⟩
theorem MW.ne (hw : MW D (MR ad cI μ) N A s H locs) {j : Nat} {x : Nat × va_E} (h : N[j]? = some x) : ∀ k, k < 5 → x.1 ≠ ad k := fun k hk e => by
  have := hw.2.1.1 (5 + j) k x (ad k, ment ad cI (μ k) k) (by have := NAT (RG := MR ad cI μ) h; rw [MR_len] at this; exact this) (MRN hk) e
  omega
theorem ne0 : ∀ (j : Nat) (x : Nat × va_E), ([] : va_W)[j]? = some x → ∀ k, k < 5 → x.1 ≠ ad k := fun j x h => by simp at h
theorem neC {x : Nat × va_E} {L : va_W} (h : ∀ k, k < 5 → x.1 ≠ ad k) (hL : ∀ (j : Nat) (y : Nat × va_E), L[j]? = some y → ∀ k, k < 5 → y.1 ≠ ad k) : ∀ (j : Nat) (y : Nat × va_E), (x :: L)[j]? = some y → ∀ k, k < 5 → y.1 ≠ ad k := fun j y hy => by
  cases j with
  | zero => cases hy; exact h
  | succ i => exact hL i y hy
theorem M_recv (hK : MK D cI cL s) (hw : MW D (MR ad cI μ) N A s H locs) : ∃ cell : Cell, H[ad 0]? = some cell ∧ cell.vm.isStatics = false ∧ s.vm.findClass RX11 = some cell.cls := va_recv hK hw.1 cl_10 (MRN (by decide))
/-- results that are arrays: fresh, their cells -/
def QA (D : va_G) (cI : ClassId) (sz : Nat) (E : TMem → State → Prop) (A : Nat → Prop) (Q : Option AI → TMem → Prop) : Array Value → State → Outcome → State → Prop := va_Qq (fun (r : Option Nat) (u : Option (Nat × AI) × TMem) => r = u.1.map (·.1) ∧ (∀ x, u.1 = some x → sz ≤ x.1) ∧ Q (u.1.map (·.2)) u.2) (fun u t => E u.2 t ∧ ∀ x, u.1 = some x → va_at D CL (eI cI x.1 x.2.1 x.2.2) t.heap) A
def QL (D : va_G) (cL : ClassId) (sz : Nat) (E : TMem → State → Prop) (A : Nat → Prop) (Q : AL → TMem → Prop) : Array Value → State → Outcome → State → Prop := va_Qq (fun (r : Option Nat) (u : (Nat × AL) × TMem) => r = some u.1.1 ∧ sz ≤ u.1.1 ∧ Q u.1.2 u.2) (fun u t => E u.2 t ∧ va_at D CL (eL cL u.1.1 u.1.2.1 u.1.2.2) t.heap) A
def MMi (l : Launch) (y : MethodName) (cd : Cond) (h c n : Nat) (as : List Value) (D : va_G) (ad : Nat → Nat) (cI cL : ClassId) (sz : Nat) (μ : TMem) (L0 : va_W) (Q : Int32 → TMem → Prop) : Prop := Met l y (cd :: W0) (RA h c n) (va_Pc as (MB D ad cI cL sz μ L0)) (va_Qi Q (ME D ad cI) (MA ad sz)) c n (MA ad sz)
def SMi (l : Launch) (y : MethodName) (cd : Cond) (h c n : Nat) (as : List Value) (D : va_G) (cI cL : ClassId) (sz : Nat) (L0 : va_W) (Q : Int32 → Prop) : Prop := Met l y (cd :: W0) (RA h c n) (va_Pc as (SB D cI cL sz L0)) (va_Qi (fun r (_ : Unit) => Q r) (fun _ _ => True) (SA sz)) c n (SA sz)
def MMl (l : Launch) (y : MethodName) (cd : Cond) (h c n : Nat) (as : List Value) (D : va_G) (ad : Nat → Nat) (cI cL : ClassId) (sz : Nat) (μ : TMem) (L0 : va_W) (Q : Int64 → TMem → Prop) : Prop := Met l y (cd :: W0) (RA h c n) (va_Pc as (MB D ad cI cL sz μ L0)) (va_Ql Q (ME D ad cI) (MA ad sz)) c n (MA ad sz)
def SMl (l : Launch) (y : MethodName) (cd : Cond) (h c n : Nat) (as : List Value) (D : va_G) (cI cL : ClassId) (sz : Nat) (L0 : va_W) (Q : Int64 → Prop) : Prop := Met l y (cd :: W0) (RA h c n) (va_Pc as (SB D cI cL sz L0)) (va_Ql (fun r (_ : Unit) => Q r) (fun _ _ => True) (SA sz)) c n (SA sz)
def MMv (l : Launch) (y : MethodName) (cd : Cond) (h c n : Nat) (as : List Value) (D : va_G) (ad : Nat → Nat) (cI cL : ClassId) (sz : Nat) (μ : TMem) (L0 : va_W) (Q : TMem → Prop) : Prop := Met l y (cd :: W0) (RA h c n) (va_Pc as (MB D ad cI cL sz μ L0)) (va_Qv Q (ME D ad cI) (MA ad sz)) c n (MA ad sz)
def SMv (l : Launch) (y : MethodName) (cd : Cond) (h c n : Nat) (as : List Value) (D : va_G) (cI cL : ClassId) (sz : Nat) (L0 : va_W) (Q : Prop) : Prop := Met l y (cd :: W0) (RA h c n) (va_Pc as (SB D cI cL sz L0)) (va_Qv (fun (_ : Unit) => Q) (fun _ _ => True) (SA sz)) c n (SA sz)
def MMA (l : Launch) (y : MethodName) (cd : Cond) (h c n : Nat) (as : List Value) (D : va_G) (ad : Nat → Nat) (cI cL : ClassId) (sz : Nat) (μ : TMem) (L0 : va_W) (Q : Option AI → TMem → Prop) : Prop := Met l y (cd :: W0) (RA h c n) (va_Pc as (MB D ad cI cL sz μ L0)) (QA D cI sz (ME D ad cI) (MA ad sz) Q) c n (MA ad sz)
def SMA (l : Launch) (y : MethodName) (cd : Cond) (h c n : Nat) (as : List Value) (D : va_G) (cI cL : ClassId) (sz : Nat) (L0 : va_W) (Q : Option AI → Prop) : Prop := Met l y (cd :: W0) (RA h c n) (va_Pc as (SB D cI cL sz L0)) (QA D cI sz (fun _ _ => True) (SA sz) (fun r _ => Q r)) c n (SA sz)
def MML (l : Launch) (y : MethodName) (cd : Cond) (h c n : Nat) (as : List Value) (D : va_G) (ad : Nat → Nat) (cI cL : ClassId) (sz : Nat) (μ : TMem) (L0 : va_W) (Q : AL → TMem → Prop) : Prop := Met l y (cd :: W0) (RA h c n) (va_Pc as (MB D ad cI cL sz μ L0)) (QL D cL sz (ME D ad cI) (MA ad sz) Q) c n (MA ad sz)
def SML (l : Launch) (y : MethodName) (cd : Cond) (h c n : Nat) (as : List Value) (D : va_G) (cI cL : ClassId) (sz : Nat) (L0 : va_W) (Q : AL → Prop) : Prop := Met l y (cd :: W0) (RA h c n) (va_Pc as (SB D cI cL sz L0)) (QL D cL sz (fun _ _ => True) (SA sz) (fun r _ => Q r)) c n (SA sz)
variable {st0 : List Value} {a : Array Value} {mc ms : Nat}
theorem M_calli {Q1 : Int32 → TMem → Prop} (hw : MW D (MR ad cI μ) N A s H locs) (hA : ∀ q, MA ad H.size q → A q) (hr : va_Run p l e R s m args below meth c H locs cells slots mc ms (F0 m pc ls st0) rest (va_Qi Q1 (ME D ad cI) (MA ad H.size) a) (MA ad H.size))
    (kk : ∀ (r : Int32) (μ1 : TMem) (H1 : Heap) (locs1 : List Loc), Q1 r μ1 → MW D (MR ad cI μ1) N A s H1 locs1 → W p l e R s m args below meth c H1 locs1 (cells + mc) (slots + ms) Q (F0 m (pc + 3) ls (.int r :: rest))) : W p l e R s m args below meth c H locs cells slots Q (F0 m pc ls st0) :=
  va_calli hr hw.2.2.1 (fun q _ h => hA q h) (fun q h => hA q h) (fun r u t H1 locs1 ht _ hq hB _ hk hS => kk r u H1 locs1 hq (hw.keepM hk (by rw [← ht]; exact hB) hS))
theorem S_calli {Q1 : Int32 → Prop} (hw : MW D RG N A s H locs) (hr : va_Run p l e R s m args below meth c H locs cells slots mc ms (F0 m pc ls st0) rest (va_Qi (fun r (_ : Unit) => Q1 r) (fun _ _ => True) (SA H.size) a) (SA H.size))
    (kk : ∀ (r : Int32) (H1 : Heap) (locs1 : List Loc), Q1 r → MW D RG N A s H1 locs1 → W p l e R s m args below meth c H1 locs1 (cells + mc) (slots + ms) Q (F0 m (pc + 3) ls (.int r :: rest))) : W p l e R s m args below meth c H locs cells slots Q (F0 m pc ls st0) :=
  va_calli hr hw.2.2.1 (fun q _ h => hw.2.2.2 q (Nat.le_trans hw.2.2.1.1 h)) (fun q h => hw.2.2.2 q (Nat.le_trans hw.2.2.1.1 h)) (fun r u t H1 locs1 ht _ hq hB _ hk hS => kk r H1 locs1 hq (hw.keepS hk hS))
theorem M_calll {Q1 : Int64 → TMem → Prop} (hw : MW D (MR ad cI μ) N A s H locs) (hA : ∀ q, MA ad H.size q → A q) (hr : va_Run p l e R s m args below meth c H locs cells slots mc ms (F0 m pc ls st0) rest (va_Ql Q1 (ME D ad cI) (MA ad H.size) a) (MA ad H.size))
    (kk : ∀ (r : Int64) (μ1 : TMem) (H1 : Heap) (locs1 : List Loc), Q1 r μ1 → MW D (MR ad cI μ1) N A s H1 locs1 → W p l e R s m args below meth c H1 locs1 (cells + mc) (slots + ms) Q (F0 m (pc + 3) ls (.long r :: rest))) : W p l e R s m args below meth c H locs cells slots Q (F0 m pc ls st0) :=
  va_calll hr hw.2.2.1 (fun q _ h => hA q h) (fun q h => hA q h) (fun r u t H1 locs1 ht _ hq hB _ hk hS => kk r u H1 locs1 hq (hw.keepM hk (by rw [← ht]; exact hB) hS))
theorem S_calll {Q1 : Int64 → Prop} (hw : MW D RG N A s H locs) (hr : va_Run p l e R s m args below meth c H locs cells slots mc ms (F0 m pc ls st0) rest (va_Ql (fun r (_ : Unit) => Q1 r) (fun _ _ => True) (SA H.size) a) (SA H.size))
    (kk : ∀ (r : Int64) (H1 : Heap) (locs1 : List Loc), Q1 r → MW D RG N A s H1 locs1 → W p l e R s m args below meth c H1 locs1 (cells + mc) (slots + ms) Q (F0 m (pc + 3) ls (.long r :: rest))) : W p l e R s m args below meth c H locs cells slots Q (F0 m pc ls st0) :=
  va_calll hr hw.2.2.1 (fun q _ h => hw.2.2.2 q (Nat.le_trans hw.2.2.1.1 h)) (fun q h => hw.2.2.2 q (Nat.le_trans hw.2.2.1.1 h)) (fun r u t H1 locs1 ht _ hq hB _ hk hS => kk r H1 locs1 hq (hw.keepS hk hS))
theorem M_callv {Q1 : TMem → Prop} (hw : MW D (MR ad cI μ) N A s H locs) (hA : ∀ q, MA ad H.size q → A q) (hr : va_Run p l e R s m args below meth c H locs cells slots mc ms (F0 m pc ls st0) rest (va_Qv Q1 (ME D ad cI) (MA ad H.size) a) (MA ad H.size))
    (kk : ∀ (μ1 : TMem) (H1 : Heap) (locs1 : List Loc), Q1 μ1 → MW D (MR ad cI μ1) N A s H1 locs1 → W p l e R s m args below meth c H1 locs1 (cells + mc) (slots + ms) Q (F0 m (pc + 3) ls (rest))) : W p l e R s m args below meth c H locs cells slots Q (F0 m pc ls st0) :=
  va_callv hr hw.2.2.1 (fun q _ h => hA q h) (fun q h => hA q h) (fun u t H1 locs1 ht _ hq hB _ hk hS => kk u H1 locs1 hq (hw.keepM hk (by rw [← ht]; exact hB) hS))
theorem S_callv {Q1 : Prop} (hw : MW D RG N A s H locs) (hr : va_Run p l e R s m args below meth c H locs cells slots mc ms (F0 m pc ls st0) rest (va_Qv (fun (_ : Unit) => Q1) (fun _ _ => True) (SA H.size) a) (SA H.size))
    (kk : ∀ (H1 : Heap) (locs1 : List Loc), Q1  → MW D RG N A s H1 locs1 → W p l e R s m args below meth c H1 locs1 (cells + mc) (slots + ms) Q (F0 m (pc + 3) ls (rest))) : W p l e R s m args below meth c H locs cells slots Q (F0 m pc ls st0) :=
  va_callv hr hw.2.2.1 (fun q _ h => hw.2.2.2 q (Nat.le_trans hw.2.2.1.1 h)) (fun q h => hw.2.2.2 q (Nat.le_trans hw.2.2.1.1 h)) (fun u t H1 locs1 ht _ hq hB _ hk hS => kk H1 locs1 hq (hw.keepS hk hS))
theorem M_callA {Q1 : Option AI → TMem → Prop} (hw : MW D (MR ad cI μ) N A s H locs) (hA : ∀ q, MA ad H.size q → A q) (hr : va_Run p l e R s m args below meth c H locs cells slots mc ms (F0 m pc ls st0) rest (QA D cI H.size (ME D ad cI) (MA ad H.size) Q1 a) (MA ad H.size))
    (k0 : ∀ (μ1 : TMem) (H1 : Heap) (locs1 : List Loc), Q1 none μ1 → MW D (MR ad cI μ1) N A s H1 locs1 → W p l e R s m args below meth c H1 locs1 (cells + mc) (slots + ms) Q (F0 m (pc + 3) ls (.null :: rest)))
    (kk : ∀ (q n : Nat) (f : Nat → Int32) (μ1 : TMem) (H1 : Heap) (locs1 : List Loc), s.heap.size ≤ q → Q1 (some (n, f)) μ1 → MW D (MR ad cI μ1) (N ++ [eI cI q n f]) A s H1 locs1 → W p l e R s m args below meth c H1 locs1 (cells + mc) (slots + ms) Q (F0 m (pc + 3) ls (.ref q :: rest))) : W p l e R s m args below meth c H locs cells slots Q (F0 m pc ls st0) := by
  refine va_callq hr hw.2.2.1 (fun q _ h => hA q h) (fun q h => hA q h) (fun r u t H1 locs1 ht _ hq hB _ hk hS => ?_)
  obtain ⟨hr1, hf, hq⟩ := hq
  obtain ⟨u1, μ1⟩ := u
  have hw1 := hw.keepM hk (by rw [← ht]; exact hB.1) hS
  cases u1 with
  | none => subst hr1; exact k0 μ1 H1 locs1 hq hw1
  | some x => subst hr1; exact kk x.1 x.2.1 x.2.2 μ1 H1 locs1 (Nat.le_trans hw.2.2.1.1 (hf x rfl)) hq (hw1.push (H0 := H) (by rw [← ht]; exact hB.2 x rfl) (hf x rfl) (fun k q hk => by
      by_cases hi : k < 5
      · rw [MRN hi] at hk
        cases hk
        have h9 := hw.lt k (ad k, ment ad cI (μ k) k) (MRN hi)
        exact h9
      · rw [List.getElem?_append_right (by rw [MR_len]; omega), MR_len] at hk
        exact hw.lt k q (by rw [List.getElem?_append_right (by rw [MR_len]; omega), MR_len]; exact hk)) hw.2.2.1.1)
theorem S_callA {Q1 : Option AI → Prop} (hw : MW D RG N A s H locs) (hr : va_Run p l e R s m args below meth c H locs cells slots mc ms (F0 m pc ls st0) rest (QA D cI H.size (fun _ _ => True) (SA H.size) (fun r _ => Q1 r) a) (SA H.size))
    (k0 : ∀ (H1 : Heap) (locs1 : List Loc), Q1 none → MW D RG N A s H1 locs1 → W p l e R s m args below meth c H1 locs1 (cells + mc) (slots + ms) Q (F0 m (pc + 3) ls (.null :: rest)))
    (kk : ∀ (q n : Nat) (f : Nat → Int32) (H1 : Heap) (locs1 : List Loc), s.heap.size ≤ q → Q1 (some (n, f)) → MW D RG (N ++ [eI cI q n f]) A s H1 locs1 → W p l e R s m args below meth c H1 locs1 (cells + mc) (slots + ms) Q (F0 m (pc + 3) ls (.ref q :: rest))) : W p l e R s m args below meth c H locs cells slots Q (F0 m pc ls st0) := by
  refine va_callq hr hw.2.2.1 (fun q _ h => hw.2.2.2 q (Nat.le_trans hw.2.2.1.1 h)) (fun q h => hw.2.2.2 q (Nat.le_trans hw.2.2.1.1 h)) (fun r u t H1 locs1 ht _ hq hB _ hk hS => ?_)
  obtain ⟨hr1, hf, hq⟩ := hq
  obtain ⟨u1, μ1⟩ := u
  have hw1 := hw.keepS hk hS
  cases u1 with
  | none => subst hr1; exact k0 H1 locs1 hq hw1
  | some x => subst hr1; exact kk x.1 x.2.1 x.2.2 H1 locs1 (Nat.le_trans hw.2.2.1.1 (hf x rfl)) hq (hw1.push (H0 := H) (by rw [← ht]; exact hB.2 x rfl) (hf x rfl) hw.lt hw.2.2.1.1)
theorem M_callL {Q1 : AL → TMem → Prop} (hw : MW D (MR ad cI μ) N A s H locs) (hA : ∀ q, MA ad H.size q → A q) (hr : va_Run p l e R s m args below meth c H locs cells slots mc ms (F0 m pc ls st0) rest (QL D cL H.size (ME D ad cI) (MA ad H.size) Q1 a) (MA ad H.size))
    (kk : ∀ (q n : Nat) (f : Nat → Int64) (μ1 : TMem) (H1 : Heap) (locs1 : List Loc), s.heap.size ≤ q → Q1 (n, f) μ1 → MW D (MR ad cI μ1) (N ++ [eL cL q n f]) A s H1 locs1 → W p l e R s m args below meth c H1 locs1 (cells + mc) (slots + ms) Q (F0 m (pc + 3) ls (.ref q :: rest))) : W p l e R s m args below meth c H locs cells slots Q (F0 m pc ls st0) := by
  refine va_callq hr hw.2.2.1 (fun q _ h => hA q h) (fun q h => hA q h) (fun r u t H1 locs1 ht _ hq hB _ hk hS => ?_)
  obtain ⟨hr1, hf, hq⟩ := hq
  obtain ⟨x, μ1⟩ := u
  have hw1 := hw.keepM hk (by rw [← ht]; exact hB.1) hS
  subst hr1
  exact kk x.1 x.2.1 x.2.2 μ1 H1 locs1 (Nat.le_trans hw.2.2.1.1 hf) hq (hw1.push (H0 := H) (by rw [← ht]; exact hB.2) hf (fun k q hk => by
      by_cases hi : k < 5
      · rw [MRN hi] at hk
        cases hk
        have h9 := hw.lt k (ad k, ment ad cI (μ k) k) (MRN hi)
        exact h9
      · rw [List.getElem?_append_right (by rw [MR_len]; omega), MR_len] at hk
        exact hw.lt k q (by rw [List.getElem?_append_right (by rw [MR_len]; omega), MR_len]; exact hk)) hw.2.2.1.1)
theorem M_meti {l : Launch} {y : MethodName} {bytes : ByteArray} {maxL : Nat} {ty : FieldType} {h fc fn : Nat} {as : List Value} {D : va_G} {cI cL : ClassId} {sz : Nat} {L0 : va_W} {ad : Nat → Nat} {μ : TMem} {Q : Int32 → TMem → Prop} (hy : plainName y.cls = true) (hsl : (lg_sl as).length ≤ maxL)
    (body : ∀ (p : Program) (e : Env) (s : State) (m : MethodId) (below : List Frame) (meth : Method) (c : Code) (Z : State → Prop) (ls : Array Slot), p.tables.exec = Jvm.exec → c.code = bytes → c.maxLocals = maxL → s.vm.findClass y.cls = some m.cls → (∀ w ∈ W0, w.before as.toArray s = true) → MK D cI cL s → va_P D CL L0 s.heap → MI ad → (∀ (j : Nat) (x : Nat × va_E), L0[j]? = some x → ∀ k, k < 5 → x.1 ≠ ad k) → MW D (MR ad cI μ) [] (MA ad s.heap.size) s s.heap [] → (∀ (H : Heap) (locs : List Loc) (ls : Array Slot) (pc cells slots : Nat) (N : va_W) (v : Int32) (μ1 : TMem) , MW D (MR ad cI μ1) N (MA ad s.heap.size) s H locs → Q v μ1 → narrow ty (.int v) = .int v → cells ≤ fc → slots ≤ fn → decode bytes pc = .ok (.ireturn, 1) → W p l e (RA h fc fn) s m as.toArray below meth c H locs cells slots Z (F0 m pc ls [.int v])) → lv_has ls maxL (lv_args 0 as) →
      W p l e (RA h fc fn) s m as.toArray below meth c s.heap [] 0 0 Z (F0 m 0 ls [])) : MMi l y (.code y bytes maxL (some ty)) h fc fn as D ad cI cL sz μ L0 Q := by
  refine Met.ofW (cc := bytes) (maxL := maxL) (ret := (some ty)) hy rfl ?_
  intro p e s m args below meth c s₁ B hml hv
  obtain ⟨rfl, hsz, hP, hP0, hK, hI, hne⟩ := hv
  subst hsz
  have hts := atoms_spec B.pre
  have hlocks := B.notSynchronized
  rw [lg_entry_eq]
  exact body p e s m below meth c _ _ B.exec B.bytes hml (findClass_of_methodNamed B.named) (fun w hw => hts w (List.mem_cons_of_mem _ hw)) hK hP0 hI hne ⟨by rw [List.append_nil]; exact hP, by rw [List.append_nil]; exact ⟨fun i j x y hx hy e => by obtain ⟨h1, rfl⟩ := MR_of hx; obtain ⟨h2, rfl⟩ := MR_of hy; exact hI i j h1 h2 e, fun k x hx => by obtain ⟨h1, rfl⟩ := MR_of hx; exact Or.inl ⟨k, h1, rfl⟩⟩, va_S.rf, fun q h => Or.inr h⟩ (fun H locs ls pc cells slots N v μ1 hw hq hn hc hs hdg => W.widen hc hs (W.zret B.exec B.bytes B.returns hn (fun t ht9 hW => ⟨⟨v, μ1, rfl, hq, by show va_P D CL (MR ad cI μ1) t.heap; rw [ht9]; exact fun k q hk => hw.1 k q (by rw [List.getElem?_append_left (List.getElem?_eq_some_iff.mp hk).1]; exact hk)⟩, hw.2.2.1.F ht9⟩) hw.2.2.1.2.2 hdg hlocks)) (lv_entry as hsl)
theorem M_metl {l : Launch} {y : MethodName} {bytes : ByteArray} {maxL : Nat} {h fc fn : Nat} {as : List Value} {D : va_G} {cI cL : ClassId} {sz : Nat} {L0 : va_W} {ad : Nat → Nat} {μ : TMem} {Q : Int64 → TMem → Prop} (hy : plainName y.cls = true) (hsl : (lg_sl as).length ≤ maxL)
    (body : ∀ (p : Program) (e : Env) (s : State) (m : MethodId) (below : List Frame) (meth : Method) (c : Code) (Z : State → Prop) (ls : Array Slot), p.tables.exec = Jvm.exec → c.code = bytes → c.maxLocals = maxL → s.vm.findClass y.cls = some m.cls → (∀ w ∈ W0, w.before as.toArray s = true) → MK D cI cL s → va_P D CL L0 s.heap → MI ad → (∀ (j : Nat) (x : Nat × va_E), L0[j]? = some x → ∀ k, k < 5 → x.1 ≠ ad k) → MW D (MR ad cI μ) [] (MA ad s.heap.size) s s.heap [] → (∀ (H : Heap) (locs : List Loc) (ls : Array Slot) (pc cells slots : Nat) (N : va_W) (v : Int64) (μ1 : TMem) , MW D (MR ad cI μ1) N (MA ad s.heap.size) s H locs → Q v μ1 → cells ≤ fc → slots ≤ fn → decode bytes pc = .ok (.lreturn, 1) → W p l e (RA h fc fn) s m as.toArray below meth c H locs cells slots Z (F0 m pc ls [.long v])) → lv_has ls maxL (lv_args 0 as) →
      W p l e (RA h fc fn) s m as.toArray below meth c s.heap [] 0 0 Z (F0 m 0 ls [])) : MMl l y (.code y bytes maxL (some .long)) h fc fn as D ad cI cL sz μ L0 Q := by
  refine Met.ofW (cc := bytes) (maxL := maxL) (ret := (some .long)) hy rfl ?_
  intro p e s m args below meth c s₁ B hml hv
  obtain ⟨rfl, hsz, hP, hP0, hK, hI, hne⟩ := hv
  subst hsz
  have hts := atoms_spec B.pre
  have hlocks := B.notSynchronized
  rw [lg_entry_eq]
  exact body p e s m below meth c _ _ B.exec B.bytes hml (findClass_of_methodNamed B.named) (fun w hw => hts w (List.mem_cons_of_mem _ hw)) hK hP0 hI hne ⟨by rw [List.append_nil]; exact hP, by rw [List.append_nil]; exact ⟨fun i j x y hx hy e => by obtain ⟨h1, rfl⟩ := MR_of hx; obtain ⟨h2, rfl⟩ := MR_of hy; exact hI i j h1 h2 e, fun k x hx => by obtain ⟨h1, rfl⟩ := MR_of hx; exact Or.inl ⟨k, h1, rfl⟩⟩, va_S.rf, fun q h => Or.inr h⟩ (fun H locs ls pc cells slots N v μ1 hw hq hc hs hdg => W.widen hc hs (W.lret B.exec B.bytes B.returns (fun t ht9 hW => ⟨⟨v, μ1, rfl, hq, by show va_P D CL (MR ad cI μ1) t.heap; rw [ht9]; exact fun k q hk => hw.1 k q (by rw [List.getElem?_append_left (List.getElem?_eq_some_iff.mp hk).1]; exact hk)⟩, hw.2.2.1.F ht9⟩) hw.2.2.1.2.2 hdg hlocks)) (lv_entry as hsl)
theorem M_metv {l : Launch} {y : MethodName} {bytes : ByteArray} {maxL : Nat} {h fc fn : Nat} {as : List Value} {D : va_G} {cI cL : ClassId} {sz : Nat} {L0 : va_W} {ad : Nat → Nat} {μ : TMem} {Q : TMem → Prop} (hy : plainName y.cls = true) (hsl : (lg_sl as).length ≤ maxL)
    (body : ∀ (p : Program) (e : Env) (s : State) (m : MethodId) (below : List Frame) (meth : Method) (c : Code) (Z : State → Prop) (ls : Array Slot), p.tables.exec = Jvm.exec → c.code = bytes → c.maxLocals = maxL → s.vm.findClass y.cls = some m.cls → (∀ w ∈ W0, w.before as.toArray s = true) → MK D cI cL s → va_P D CL L0 s.heap → MI ad → (∀ (j : Nat) (x : Nat × va_E), L0[j]? = some x → ∀ k, k < 5 → x.1 ≠ ad k) → MW D (MR ad cI μ) [] (MA ad s.heap.size) s s.heap [] → (∀ (H : Heap) (locs : List Loc) (ls : Array Slot) (pc cells slots : Nat) (N : va_W) (μ1 : TMem) , MW D (MR ad cI μ1) N (MA ad s.heap.size) s H locs → Q μ1 → cells ≤ fc → slots ≤ fn → decode bytes pc = .ok (.return_, 1) → W p l e (RA h fc fn) s m as.toArray below meth c H locs cells slots Z (F0 m pc ls [])) → lv_has ls maxL (lv_args 0 as) →
      W p l e (RA h fc fn) s m as.toArray below meth c s.heap [] 0 0 Z (F0 m 0 ls [])) : MMv l y (.code y bytes maxL none) h fc fn as D ad cI cL sz μ L0 Q := by
  refine Met.ofW (cc := bytes) (maxL := maxL) (ret := none) hy rfl ?_
  intro p e s m args below meth c s₁ B hml hv
  obtain ⟨rfl, hsz, hP, hP0, hK, hI, hne⟩ := hv
  subst hsz
  have hts := atoms_spec B.pre
  have hlocks := B.notSynchronized
  rw [lg_entry_eq]
  exact body p e s m below meth c _ _ B.exec B.bytes hml (findClass_of_methodNamed B.named) (fun w hw => hts w (List.mem_cons_of_mem _ hw)) hK hP0 hI hne ⟨by rw [List.append_nil]; exact hP, by rw [List.append_nil]; exact ⟨fun i j x y hx hy e => by obtain ⟨h1, rfl⟩ := MR_of hx; obtain ⟨h2, rfl⟩ := MR_of hy; exact hI i j h1 h2 e, fun k x hx => by obtain ⟨h1, rfl⟩ := MR_of hx; exact Or.inl ⟨k, h1, rfl⟩⟩, va_S.rf, fun q h => Or.inr h⟩ (fun H locs ls pc cells slots N μ1 hw hq hc hs hdg => W.widen hc hs (W.vret B.exec B.bytes B.returns (fun t ht9 hW => ⟨⟨μ1, rfl, hq, by show va_P D CL (MR ad cI μ1) t.heap; rw [ht9]; exact fun k q hk => hw.1 k q (by rw [List.getElem?_append_left (List.getElem?_eq_some_iff.mp hk).1]; exact hk)⟩, hw.2.2.1.F ht9⟩) hw.2.2.1.2.2 hdg hlocks)) (lv_entry as hsl)
theorem M_metA {l : Launch} {y : MethodName} {bytes : ByteArray} {maxL : Nat} {h fc fn : Nat} {as : List Value} {D : va_G} {cI cL : ClassId} {sz : Nat} {L0 : va_W} {ad : Nat → Nat} {μ : TMem} {Q : Option AI → TMem → Prop} (hy : plainName y.cls = true) (hsl : (lg_sl as).length ≤ maxL)
    (body : ∀ (p : Program) (e : Env) (s : State) (m : MethodId) (below : List Frame) (meth : Method) (c : Code) (Z : State → Prop) (ls : Array Slot), p.tables.exec = Jvm.exec → c.code = bytes → c.maxLocals = maxL → s.vm.findClass y.cls = some m.cls → (∀ w ∈ W0, w.before as.toArray s = true) → MK D cI cL s → va_P D CL L0 s.heap → MI ad → (∀ (j : Nat) (x : Nat × va_E), L0[j]? = some x → ∀ k, k < 5 → x.1 ≠ ad k) → MW D (MR ad cI μ) [] (MA ad s.heap.size) s s.heap [] → (∀ (H : Heap) (locs : List Loc) (ls : Array Slot) (pc cells slots : Nat) (N : va_W) (j q n : Nat) (f : Nat → Int32) (μ1 : TMem) , MW D (MR ad cI μ1) N (MA ad s.heap.size) s H locs → N[j]? = some (eI cI q n f) → s.heap.size ≤ q → Q (some (n, f)) μ1 → cells ≤ fc → slots ≤ fn → decode bytes pc = .ok (.areturn, 1) → W p l e (RA h fc fn) s m as.toArray below meth c H locs cells slots Z (F0 m pc ls [.ref q])) → (∀ (H : Heap) (locs : List Loc) (ls : Array Slot) (pc cells slots : Nat) (N : va_W) (μ1 : TMem) , MW D (MR ad cI μ1) N (MA ad s.heap.size) s H locs → Q none μ1 → cells ≤ fc → slots ≤ fn → decode bytes pc = .ok (.areturn, 1) → W p l e (RA h fc fn) s m as.toArray below meth c H locs cells slots Z (F0 m pc ls [.null])) → lv_has ls maxL (lv_args 0 as) →
      W p l e (RA h fc fn) s m as.toArray below meth c s.heap [] 0 0 Z (F0 m 0 ls [])) : MMA l y (.code y bytes maxL (some (.array .int))) h fc fn as D ad cI cL sz μ L0 Q := by
  refine Met.ofW (cc := bytes) (maxL := maxL) (ret := (some (.array .int))) hy rfl ?_
  intro p e s m args below meth c s₁ B hml hv
  obtain ⟨rfl, hsz, hP, hP0, hK, hI, hne⟩ := hv
  subst hsz
  have hts := atoms_spec B.pre
  have hlocks := B.notSynchronized
  rw [lg_entry_eq]
  exact body p e s m below meth c _ _ B.exec B.bytes hml (findClass_of_methodNamed B.named) (fun w hw => hts w (List.mem_cons_of_mem _ hw)) hK hP0 hI hne ⟨by rw [List.append_nil]; exact hP, by rw [List.append_nil]; exact ⟨fun i j x y hx hy e => by obtain ⟨h1, rfl⟩ := MR_of hx; obtain ⟨h2, rfl⟩ := MR_of hy; exact hI i j h1 h2 e, fun k x hx => by obtain ⟨h1, rfl⟩ := MR_of hx; exact Or.inl ⟨k, h1, rfl⟩⟩, va_S.rf, fun q h => Or.inr h⟩ (fun H locs ls pc cells slots N j q n f μ1 hw hj hf hq hc hs hdg => W.widen hc hs (W.aret B.exec B.bytes B.returns (Or.inr ⟨_, rfl⟩) (Or.inr ⟨_, rfl⟩) (fun t ht9 hW => ⟨⟨some q, (some (q, n, f), μ1), rfl, ⟨rfl, (fun x hx => by cases hx; exact hf), hq⟩, by show va_P D CL (MR ad cI μ1) t.heap; rw [ht9]; exact fun k q hk => hw.1 k q (by rw [List.getElem?_append_left (List.getElem?_eq_some_iff.mp hk).1]; exact hk), (fun x hx => by cases hx; rw [ht9]; exact hw.n hj)⟩, hw.2.2.1.F ht9⟩) hw.2.2.1.2.2 hdg hlocks)) (fun H locs ls pc cells slots N μ1 hw hq hc hs hdg => W.widen hc hs (W.aret B.exec B.bytes B.returns (Or.inr ⟨_, rfl⟩) (Or.inl rfl) (fun t ht9 hW => ⟨⟨none, (none, μ1), rfl, ⟨rfl, (fun x hx => nomatch hx), hq⟩, by show va_P D CL (MR ad cI μ1) t.heap; rw [ht9]; exact fun k q hk => hw.1 k q (by rw [List.getElem?_append_left (List.getElem?_eq_some_iff.mp hk).1]; exact hk), (fun x hx => nomatch hx)⟩, hw.2.2.1.F ht9⟩) hw.2.2.1.2.2 hdg hlocks)) (lv_entry as hsl)
theorem M_metL {l : Launch} {y : MethodName} {bytes : ByteArray} {maxL : Nat} {h fc fn : Nat} {as : List Value} {D : va_G} {cI cL : ClassId} {sz : Nat} {L0 : va_W} {ad : Nat → Nat} {μ : TMem} {Q : AL → TMem → Prop} (hy : plainName y.cls = true) (hsl : (lg_sl as).length ≤ maxL)
    (body : ∀ (p : Program) (e : Env) (s : State) (m : MethodId) (below : List Frame) (meth : Method) (c : Code) (Z : State → Prop) (ls : Array Slot), p.tables.exec = Jvm.exec → c.code = bytes → c.maxLocals = maxL → s.vm.findClass y.cls = some m.cls → (∀ w ∈ W0, w.before as.toArray s = true) → MK D cI cL s → va_P D CL L0 s.heap → MI ad → (∀ (j : Nat) (x : Nat × va_E), L0[j]? = some x → ∀ k, k < 5 → x.1 ≠ ad k) → MW D (MR ad cI μ) [] (MA ad s.heap.size) s s.heap [] → (∀ (H : Heap) (locs : List Loc) (ls : Array Slot) (pc cells slots : Nat) (N : va_W) (j q n : Nat) (f : Nat → Int64) (μ1 : TMem) , MW D (MR ad cI μ1) N (MA ad s.heap.size) s H locs → N[j]? = some (eL cL q n f) → s.heap.size ≤ q → Q (n, f) μ1 → cells ≤ fc → slots ≤ fn → decode bytes pc = .ok (.areturn, 1) → W p l e (RA h fc fn) s m as.toArray below meth c H locs cells slots Z (F0 m pc ls [.ref q])) → lv_has ls maxL (lv_args 0 as) →
      W p l e (RA h fc fn) s m as.toArray below meth c s.heap [] 0 0 Z (F0 m 0 ls [])) : MML l y (.code y bytes maxL (some (.array .long))) h fc fn as D ad cI cL sz μ L0 Q := by
  refine Met.ofW (cc := bytes) (maxL := maxL) (ret := (some (.array .long))) hy rfl ?_
  intro p e s m args below meth c s₁ B hml hv
  obtain ⟨rfl, hsz, hP, hP0, hK, hI, hne⟩ := hv
  subst hsz
  have hts := atoms_spec B.pre
  have hlocks := B.notSynchronized
  rw [lg_entry_eq]
  exact body p e s m below meth c _ _ B.exec B.bytes hml (findClass_of_methodNamed B.named) (fun w hw => hts w (List.mem_cons_of_mem _ hw)) hK hP0 hI hne ⟨by rw [List.append_nil]; exact hP, by rw [List.append_nil]; exact ⟨fun i j x y hx hy e => by obtain ⟨h1, rfl⟩ := MR_of hx; obtain ⟨h2, rfl⟩ := MR_of hy; exact hI i j h1 h2 e, fun k x hx => by obtain ⟨h1, rfl⟩ := MR_of hx; exact Or.inl ⟨k, h1, rfl⟩⟩, va_S.rf, fun q h => Or.inr h⟩ (fun H locs ls pc cells slots N j q n f μ1 hw hj hf hq hc hs hdg => W.widen hc hs (W.aret B.exec B.bytes B.returns (Or.inr ⟨_, rfl⟩) (Or.inr ⟨_, rfl⟩) (fun t ht9 hW => ⟨⟨some q, ((q, n, f), μ1), rfl, ⟨rfl, hf, hq⟩, by show va_P D CL (MR ad cI μ1) t.heap; rw [ht9]; exact fun k q hk => hw.1 k q (by rw [List.getElem?_append_left (List.getElem?_eq_some_iff.mp hk).1]; exact hk), by rw [ht9]; exact hw.n hj⟩, hw.2.2.1.F ht9⟩) hw.2.2.1.2.2 hdg hlocks)) (lv_entry as hsl)
theorem S_meti {l : Launch} {y : MethodName} {bytes : ByteArray} {maxL : Nat} {ty : FieldType} {h fc fn : Nat} {as : List Value} {D : va_G} {cI cL : ClassId} {sz : Nat} {L0 : va_W} {Q : Int32 → Prop} (hy : plainName y.cls = true) (hsl : (lg_sl as).length ≤ maxL)
    (body : ∀ (p : Program) (e : Env) (s : State) (m : MethodId) (below : List Frame) (meth : Method) (c : Code) (Z : State → Prop) (ls : Array Slot), p.tables.exec = Jvm.exec → c.code = bytes → c.maxLocals = maxL → s.vm.findClass y.cls = some m.cls → (∀ w ∈ W0, w.before as.toArray s = true) → MK D cI cL s → va_P D CL L0 s.heap → MW D [] [] (SA s.heap.size) s s.heap [] → (∀ (H : Heap) (locs : List Loc) (ls : Array Slot) (pc cells slots : Nat) (N : va_W) (v : Int32) , MW D [] N (SA s.heap.size) s H locs → Q v → narrow ty (.int v) = .int v → cells ≤ fc → slots ≤ fn → decode bytes pc = .ok (.ireturn, 1) → W p l e (RA h fc fn) s m as.toArray below meth c H locs cells slots Z (F0 m pc ls [.int v])) → lv_has ls maxL (lv_args 0 as) →
      W p l e (RA h fc fn) s m as.toArray below meth c s.heap [] 0 0 Z (F0 m 0 ls [])) : SMi l y (.code y bytes maxL (some ty)) h fc fn as D cI cL sz L0 Q := by
  refine Met.ofW (cc := bytes) (maxL := maxL) (ret := (some ty)) hy rfl ?_
  intro p e s m args below meth c s₁ B hml hv
  obtain ⟨rfl, hsz, hP0, hK⟩ := hv
  subst hsz
  have hts := atoms_spec B.pre
  have hlocks := B.notSynchronized
  rw [lg_entry_eq]
  exact body p e s m below meth c _ _ B.exec B.bytes hml (findClass_of_methodNamed B.named) (fun w hw => hts w (List.mem_cons_of_mem _ hw)) hK hP0 ⟨va_P0, ⟨fun i j x y hx => by simp at hx, fun k x hx => by simp at hx⟩, va_S.rf, fun q h => h⟩ (fun H locs ls pc cells slots N v hw hq hn hc hs hdg => W.widen hc hs (W.zret B.exec B.bytes B.returns hn (fun t ht9 hW => ⟨⟨v, (), rfl, hq, trivial⟩, hw.2.2.1.F ht9⟩) hw.2.2.1.2.2 hdg hlocks)) (lv_entry as hsl)
theorem S_metl {l : Launch} {y : MethodName} {bytes : ByteArray} {maxL : Nat} {h fc fn : Nat} {as : List Value} {D : va_G} {cI cL : ClassId} {sz : Nat} {L0 : va_W} {Q : Int64 → Prop} (hy : plainName y.cls = true) (hsl : (lg_sl as).length ≤ maxL)
    (body : ∀ (p : Program) (e : Env) (s : State) (m : MethodId) (below : List Frame) (meth : Method) (c : Code) (Z : State → Prop) (ls : Array Slot), p.tables.exec = Jvm.exec → c.code = bytes → c.maxLocals = maxL → s.vm.findClass y.cls = some m.cls → (∀ w ∈ W0, w.before as.toArray s = true) → MK D cI cL s → va_P D CL L0 s.heap → MW D [] [] (SA s.heap.size) s s.heap [] → (∀ (H : Heap) (locs : List Loc) (ls : Array Slot) (pc cells slots : Nat) (N : va_W) (v : Int64) , MW D [] N (SA s.heap.size) s H locs → Q v → cells ≤ fc → slots ≤ fn → decode bytes pc = .ok (.lreturn, 1) → W p l e (RA h fc fn) s m as.toArray below meth c H locs cells slots Z (F0 m pc ls [.long v])) → lv_has ls maxL (lv_args 0 as) →
      W p l e (RA h fc fn) s m as.toArray below meth c s.heap [] 0 0 Z (F0 m 0 ls [])) : SMl l y (.code y bytes maxL (some .long)) h fc fn as D cI cL sz L0 Q := by
  refine Met.ofW (cc := bytes) (maxL := maxL) (ret := (some .long)) hy rfl ?_
  intro p e s m args below meth c s₁ B hml hv
  obtain ⟨rfl, hsz, hP0, hK⟩ := hv
  subst hsz
  have hts := atoms_spec B.pre
  have hlocks := B.notSynchronized
  rw [lg_entry_eq]
  exact body p e s m below meth c _ _ B.exec B.bytes hml (findClass_of_methodNamed B.named) (fun w hw => hts w (List.mem_cons_of_mem _ hw)) hK hP0 ⟨va_P0, ⟨fun i j x y hx => by simp at hx, fun k x hx => by simp at hx⟩, va_S.rf, fun q h => h⟩ (fun H locs ls pc cells slots N v hw hq hc hs hdg => W.widen hc hs (W.lret B.exec B.bytes B.returns (fun t ht9 hW => ⟨⟨v, (), rfl, hq, trivial⟩, hw.2.2.1.F ht9⟩) hw.2.2.1.2.2 hdg hlocks)) (lv_entry as hsl)
theorem S_metv {l : Launch} {y : MethodName} {bytes : ByteArray} {maxL : Nat} {h fc fn : Nat} {as : List Value} {D : va_G} {cI cL : ClassId} {sz : Nat} {L0 : va_W} {Q : Prop} (hy : plainName y.cls = true) (hsl : (lg_sl as).length ≤ maxL)
    (body : ∀ (p : Program) (e : Env) (s : State) (m : MethodId) (below : List Frame) (meth : Method) (c : Code) (Z : State → Prop) (ls : Array Slot), p.tables.exec = Jvm.exec → c.code = bytes → c.maxLocals = maxL → s.vm.findClass y.cls = some m.cls → (∀ w ∈ W0, w.before as.toArray s = true) → MK D cI cL s → va_P D CL L0 s.heap → MW D [] [] (SA s.heap.size) s s.heap [] → (∀ (H : Heap) (locs : List Loc) (ls : Array Slot) (pc cells slots : Nat) (N : va_W) , MW D [] N (SA s.heap.size) s H locs → Q → cells ≤ fc → slots ≤ fn → decode bytes pc = .ok (.return_, 1) → W p l e (RA h fc fn) s m as.toArray below meth c H locs cells slots Z (F0 m pc ls [])) → lv_has ls maxL (lv_args 0 as) →
      W p l e (RA h fc fn) s m as.toArray below meth c s.heap [] 0 0 Z (F0 m 0 ls [])) : SMv l y (.code y bytes maxL none) h fc fn as D cI cL sz L0 Q := by
  refine Met.ofW (cc := bytes) (maxL := maxL) (ret := none) hy rfl ?_
  intro p e s m args below meth c s₁ B hml hv
  obtain ⟨rfl, hsz, hP0, hK⟩ := hv
  subst hsz
  have hts := atoms_spec B.pre
  have hlocks := B.notSynchronized
  rw [lg_entry_eq]
  exact body p e s m below meth c _ _ B.exec B.bytes hml (findClass_of_methodNamed B.named) (fun w hw => hts w (List.mem_cons_of_mem _ hw)) hK hP0 ⟨va_P0, ⟨fun i j x y hx => by simp at hx, fun k x hx => by simp at hx⟩, va_S.rf, fun q h => h⟩ (fun H locs ls pc cells slots N hw hq hc hs hdg => W.widen hc hs (W.vret B.exec B.bytes B.returns (fun t ht9 hW => ⟨⟨(), rfl, hq, trivial⟩, hw.2.2.1.F ht9⟩) hw.2.2.1.2.2 hdg hlocks)) (lv_entry as hsl)
theorem S_metA {l : Launch} {y : MethodName} {bytes : ByteArray} {maxL : Nat} {h fc fn : Nat} {as : List Value} {D : va_G} {cI cL : ClassId} {sz : Nat} {L0 : va_W} {Q : Option AI → Prop} (hy : plainName y.cls = true) (hsl : (lg_sl as).length ≤ maxL)
    (body : ∀ (p : Program) (e : Env) (s : State) (m : MethodId) (below : List Frame) (meth : Method) (c : Code) (Z : State → Prop) (ls : Array Slot), p.tables.exec = Jvm.exec → c.code = bytes → c.maxLocals = maxL → s.vm.findClass y.cls = some m.cls → (∀ w ∈ W0, w.before as.toArray s = true) → MK D cI cL s → va_P D CL L0 s.heap → MW D [] [] (SA s.heap.size) s s.heap [] → (∀ (H : Heap) (locs : List Loc) (ls : Array Slot) (pc cells slots : Nat) (N : va_W) (j q n : Nat) (f : Nat → Int32) , MW D [] N (SA s.heap.size) s H locs → N[j]? = some (eI cI q n f) → s.heap.size ≤ q → Q (some (n, f)) → cells ≤ fc → slots ≤ fn → decode bytes pc = .ok (.areturn, 1) → W p l e (RA h fc fn) s m as.toArray below meth c H locs cells slots Z (F0 m pc ls [.ref q])) → (∀ (H : Heap) (locs : List Loc) (ls : Array Slot) (pc cells slots : Nat) (N : va_W) , MW D [] N (SA s.heap.size) s H locs → Q none → cells ≤ fc → slots ≤ fn → decode bytes pc = .ok (.areturn, 1) → W p l e (RA h fc fn) s m as.toArray below meth c H locs cells slots Z (F0 m pc ls [.null])) → lv_has ls maxL (lv_args 0 as) →
      W p l e (RA h fc fn) s m as.toArray below meth c s.heap [] 0 0 Z (F0 m 0 ls [])) : SMA l y (.code y bytes maxL (some (.array .int))) h fc fn as D cI cL sz L0 Q := by
  refine Met.ofW (cc := bytes) (maxL := maxL) (ret := (some (.array .int))) hy rfl ?_
  intro p e s m args below meth c s₁ B hml hv
  obtain ⟨rfl, hsz, hP0, hK⟩ := hv
  subst hsz
  have hts := atoms_spec B.pre
  have hlocks := B.notSynchronized
  rw [lg_entry_eq]
  exact body p e s m below meth c _ _ B.exec B.bytes hml (findClass_of_methodNamed B.named) (fun w hw => hts w (List.mem_cons_of_mem _ hw)) hK hP0 ⟨va_P0, ⟨fun i j x y hx => by simp at hx, fun k x hx => by simp at hx⟩, va_S.rf, fun q h => h⟩ (fun H locs ls pc cells slots N j q n f hw hj hf hq hc hs hdg => W.widen hc hs (W.aret B.exec B.bytes B.returns (Or.inr ⟨_, rfl⟩) (Or.inr ⟨_, rfl⟩) (fun t ht9 hW => ⟨⟨some q, (some (q, n, f), (fun _ _ => 0)), rfl, ⟨rfl, (fun x hx => by cases hx; exact hf), hq⟩, trivial, (fun x hx => by cases hx; rw [ht9]; exact hw.n hj)⟩, hw.2.2.1.F ht9⟩) hw.2.2.1.2.2 hdg hlocks)) (fun H locs ls pc cells slots N hw hq hc hs hdg => W.widen hc hs (W.aret B.exec B.bytes B.returns (Or.inr ⟨_, rfl⟩) (Or.inl rfl) (fun t ht9 hW => ⟨⟨none, (none, (fun _ _ => 0)), rfl, ⟨rfl, (fun x hx => nomatch hx), hq⟩, trivial, (fun x hx => nomatch hx)⟩, hw.2.2.1.F ht9⟩) hw.2.2.1.2.2 hdg hlocks)) (lv_entry as hsl)
theorem S_metL {l : Launch} {y : MethodName} {bytes : ByteArray} {maxL : Nat} {h fc fn : Nat} {as : List Value} {D : va_G} {cI cL : ClassId} {sz : Nat} {L0 : va_W} {Q : AL → Prop} (hy : plainName y.cls = true) (hsl : (lg_sl as).length ≤ maxL)
    (body : ∀ (p : Program) (e : Env) (s : State) (m : MethodId) (below : List Frame) (meth : Method) (c : Code) (Z : State → Prop) (ls : Array Slot), p.tables.exec = Jvm.exec → c.code = bytes → c.maxLocals = maxL → s.vm.findClass y.cls = some m.cls → (∀ w ∈ W0, w.before as.toArray s = true) → MK D cI cL s → va_P D CL L0 s.heap → MW D [] [] (SA s.heap.size) s s.heap [] → (∀ (H : Heap) (locs : List Loc) (ls : Array Slot) (pc cells slots : Nat) (N : va_W) (j q n : Nat) (f : Nat → Int64) , MW D [] N (SA s.heap.size) s H locs → N[j]? = some (eL cL q n f) → s.heap.size ≤ q → Q (n, f) → cells ≤ fc → slots ≤ fn → decode bytes pc = .ok (.areturn, 1) → W p l e (RA h fc fn) s m as.toArray below meth c H locs cells slots Z (F0 m pc ls [.ref q])) → lv_has ls maxL (lv_args 0 as) →
      W p l e (RA h fc fn) s m as.toArray below meth c s.heap [] 0 0 Z (F0 m 0 ls [])) : SML l y (.code y bytes maxL (some (.array .long))) h fc fn as D cI cL sz L0 Q := by
  refine Met.ofW (cc := bytes) (maxL := maxL) (ret := (some (.array .long))) hy rfl ?_
  intro p e s m args below meth c s₁ B hml hv
  obtain ⟨rfl, hsz, hP0, hK⟩ := hv
  subst hsz
  have hts := atoms_spec B.pre
  have hlocks := B.notSynchronized
  rw [lg_entry_eq]
  exact body p e s m below meth c _ _ B.exec B.bytes hml (findClass_of_methodNamed B.named) (fun w hw => hts w (List.mem_cons_of_mem _ hw)) hK hP0 ⟨va_P0, ⟨fun i j x y hx => by simp at hx, fun k x hx => by simp at hx⟩, va_S.rf, fun q h => h⟩ (fun H locs ls pc cells slots N j q n f hw hj hf hq hc hs hdg => W.widen hc hs (W.aret B.exec B.bytes B.returns (Or.inr ⟨_, rfl⟩) (Or.inr ⟨_, rfl⟩) (fun t ht9 hW => ⟨⟨some q, ((q, n, f), (fun _ _ => 0)), rfl, ⟨rfl, hf, hq⟩, trivial, by rw [ht9]; exact hw.n hj⟩, hw.2.2.1.F ht9⟩) hw.2.2.1.2.2 hdg hlocks)) (lv_entry as hsl)
end MLB
end
/-! part 61.dec3 -/
section
set_option maxRecDepth 100000 in
theorem db_cX11_isIn_dX11_isIn_0_0 : zw [(0, .iload_n 0, 1), (1, .iload_n 1, 1), (2, .if_icmp .lt 12, 3), (5, .iload_n 0, 1), (6, .iload_n 2, 1), (7, .if_icmp .gt 7, 3), (10, .iconst 1, 1), (11, .goto 4, 3), (14, .iconst 0, 1), (15, .ireturn, 1)] (cX11_isIn.data.toList.drop 0) 0 = true := by decide +kernel
def dc_cX11_isIn_dX11_isIn_0_0 := zw_10 db_cX11_isIn_dX11_isIn_0_0
def dX11_isIn_0 := dc_cX11_isIn_dX11_isIn_0_0.1
def dX11_isIn_1 := dc_cX11_isIn_dX11_isIn_0_0.2.1
def dX11_isIn_2 := dc_cX11_isIn_dX11_isIn_0_0.2.2.1
def dX11_isIn_5 := dc_cX11_isIn_dX11_isIn_0_0.2.2.2.1
def dX11_isIn_6 := dc_cX11_isIn_dX11_isIn_0_0.2.2.2.2.1
def dX11_isIn_7 := dc_cX11_isIn_dX11_isIn_0_0.2.2.2.2.2.1
def dX11_isIn_10 := dc_cX11_isIn_dX11_isIn_0_0.2.2.2.2.2.2.1
def dX11_isIn_11 := dc_cX11_isIn_dX11_isIn_0_0.2.2.2.2.2.2.2.1
def dX11_isIn_14 := dc_cX11_isIn_dX11_isIn_0_0.2.2.2.2.2.2.2.2.1
def dX11_isIn_15 := dc_cX11_isIn_dX11_isIn_0_0.2.2.2.2.2.2.2.2.2
set_option maxRecDepth 100000 in
theorem db_cX11_isOne_dX11_isOne_0_0 : zw [(0, .iload_n 0, 1), (1, .iconst 0, 1), (2, .iconst 3, 1), (3, .invokestatic 26, 3), (6, .ireturn, 1)] (cX11_isOne.data.toList.drop 0) 0 = true := by decide +kernel
def dc_cX11_isOne_dX11_isOne_0_0 := zw_5 db_cX11_isOne_dX11_isOne_0_0
def dX11_isOne_0 := dc_cX11_isOne_dX11_isOne_0_0.1
def dX11_isOne_1 := dc_cX11_isOne_dX11_isOne_0_0.2.1
def dX11_isOne_2 := dc_cX11_isOne_dX11_isOne_0_0.2.2.1
def dX11_isOne_3 := dc_cX11_isOne_dX11_isOne_0_0.2.2.2.1
def dX11_isOne_6 := dc_cX11_isOne_dX11_isOne_0_0.2.2.2.2
set_option maxRecDepth 100000 in
theorem db_cX11_isThrown_dX11_isThrown_0_0 : zw [(0, .aload_n 0, 1), (1, .iload_n 1, 1), (2, .ifCond .ne 7, 3), (5, .iconst 1, 1), (6, .goto 12, 3), (9, .iload_n 2, 1), (10, .ifCond .ne 7, 3), (13, .iconst 2, 1), (14, .goto 4, 3), (17, .iconst 0, 1), (18, .putfield 22, 3), (21, .aload_n 0, 1), (22, .getfield 22, 3), (25, .ifCond .le 7, 3), (28, .iconst 1, 1), (29, .goto 4, 3)] (cX11_isThrown.data.toList.drop 0) 0 = true := by decide +kernel
def dc_cX11_isThrown_dX11_isThrown_0_0 := zw_16 db_cX11_isThrown_dX11_isThrown_0_0
def dX11_isThrown_0 := dc_cX11_isThrown_dX11_isThrown_0_0.1
def dX11_isThrown_1 := dc_cX11_isThrown_dX11_isThrown_0_0.2.1
def dX11_isThrown_2 := dc_cX11_isThrown_dX11_isThrown_0_0.2.2.1
def dX11_isThrown_5 := dc_cX11_isThrown_dX11_isThrown_0_0.2.2.2.1
def dX11_isThrown_6 := dc_cX11_isThrown_dX11_isThrown_0_0.2.2.2.2.1
def dX11_isThrown_9 := dc_cX11_isThrown_dX11_isThrown_0_0.2.2.2.2.2.1
def dX11_isThrown_10 := dc_cX11_isThrown_dX11_isThrown_0_0.2.2.2.2.2.2.1
def dX11_isThrown_13 := dc_cX11_isThrown_dX11_isThrown_0_0.2.2.2.2.2.2.2.1
def dX11_isThrown_14 := dc_cX11_isThrown_dX11_isThrown_0_0.2.2.2.2.2.2.2.2.1
def dX11_isThrown_17 := dc_cX11_isThrown_dX11_isThrown_0_0.2.2.2.2.2.2.2.2.2.1
def dX11_isThrown_18 := dc_cX11_isThrown_dX11_isThrown_0_0.2.2.2.2.2.2.2.2.2.2.1
def dX11_isThrown_21 := dc_cX11_isThrown_dX11_isThrown_0_0.2.2.2.2.2.2.2.2.2.2.2.1
def dX11_isThrown_22 := dc_cX11_isThrown_dX11_isThrown_0_0.2.2.2.2.2.2.2.2.2.2.2.2.1
def dX11_isThrown_25 := dc_cX11_isThrown_dX11_isThrown_0_0.2.2.2.2.2.2.2.2.2.2.2.2.2.1
def dX11_isThrown_28 := dc_cX11_isThrown_dX11_isThrown_0_0.2.2.2.2.2.2.2.2.2.2.2.2.2.2.1
def dX11_isThrown_29 := dc_cX11_isThrown_dX11_isThrown_0_0.2.2.2.2.2.2.2.2.2.2.2.2.2.2.2
set_option maxRecDepth 100000 in
theorem db_cX11_isThrown_dX11_isThrown_32_1 : zw [(32, .iconst 0, 1), (33, .ireturn, 1)] (cX11_isThrown.data.toList.drop 32) 32 = true := by decide +kernel
def dc_cX11_isThrown_dX11_isThrown_32_1 := zw_2 db_cX11_isThrown_dX11_isThrown_32_1
def dX11_isThrown_32 := dc_cX11_isThrown_dX11_isThrown_32_1.1
def dX11_isThrown_33 := dc_cX11_isThrown_dX11_isThrown_32_1.2
set_option maxRecDepth 100000 in
theorem db_cX11_isCrowded_dX11_isCrowded_0_0 : zw [(0, .aload_n 0, 1), (1, .aload_n 1, 1), (2, .ifnonnull 7, 3), (5, .iload_n 2, 1), (6, .goto 4, 3), (9, .iconst 0, 1), (10, .putfield 22, 3), (13, .aload_n 1, 1), (14, .ifnonnull 7, 3), (17, .iconst 1, 1), (18, .goto 4, 3), (21, .iconst 0, 1), (22, .ireturn, 1)] (cX11_isCrowded.data.toList.drop 0) 0 = true := by decide +kernel
def dc_cX11_isCrowded_dX11_isCrowded_0_0 := zw_13 db_cX11_isCrowded_dX11_isCrowded_0_0
def dX11_isCrowded_0 := dc_cX11_isCrowded_dX11_isCrowded_0_0.1
def dX11_isCrowded_1 := dc_cX11_isCrowded_dX11_isCrowded_0_0.2.1
def dX11_isCrowded_2 := dc_cX11_isCrowded_dX11_isCrowded_0_0.2.2.1
def dX11_isCrowded_5 := dc_cX11_isCrowded_dX11_isCrowded_0_0.2.2.2.1
def dX11_isCrowded_6 := dc_cX11_isCrowded_dX11_isCrowded_0_0.2.2.2.2.1
def dX11_isCrowded_9 := dc_cX11_isCrowded_dX11_isCrowded_0_0.2.2.2.2.2.1
def dX11_isCrowded_10 := dc_cX11_isCrowded_dX11_isCrowded_0_0.2.2.2.2.2.2.1
def dX11_isCrowded_13 := dc_cX11_isCrowded_dX11_isCrowded_0_0.2.2.2.2.2.2.2.1
def dX11_isCrowded_14 := dc_cX11_isCrowded_dX11_isCrowded_0_0.2.2.2.2.2.2.2.2.1
def dX11_isCrowded_17 := dc_cX11_isCrowded_dX11_isCrowded_0_0.2.2.2.2.2.2.2.2.2.1
def dX11_isCrowded_18 := dc_cX11_isCrowded_dX11_isCrowded_0_0.2.2.2.2.2.2.2.2.2.2.1
def dX11_isCrowded_21 := dc_cX11_isCrowded_dX11_isCrowded_0_0.2.2.2.2.2.2.2.2.2.2.2.1
def dX11_isCrowded_22 := dc_cX11_isCrowded_dX11_isCrowded_0_0.2.2.2.2.2.2.2.2.2.2.2.2
set_option maxRecDepth 100000 in
theorem db_cX11_key_dX11_key_0_0 : zw [(0, .iload_n 0, 1), (1, .bipush 7, 2), (3, .imul, 1), (4, .iload_n 1, 1), (5, .iadd, 1), (6, .iconst 3, 1), (7, .imul, 1), (8, .iload_n 2, 1), (9, .iadd, 1), (10, .ireturn, 1)] (cX11_key.data.toList.drop 0) 0 = true := by decide +kernel
def dc_cX11_key_dX11_key_0_0 := zw_10 db_cX11_key_dX11_key_0_0
def dX11_key_0 := dc_cX11_key_dX11_key_0_0.1
def dX11_key_1 := dc_cX11_key_dX11_key_0_0.2.1
def dX11_key_3 := dc_cX11_key_dX11_key_0_0.2.2.1
def dX11_key_4 := dc_cX11_key_dX11_key_0_0.2.2.2.1
def dX11_key_5 := dc_cX11_key_dX11_key_0_0.2.2.2.2.1
def dX11_key_6 := dc_cX11_key_dX11_key_0_0.2.2.2.2.2.1
def dX11_key_7 := dc_cX11_key_dX11_key_0_0.2.2.2.2.2.2.1
def dX11_key_8 := dc_cX11_key_dX11_key_0_0.2.2.2.2.2.2.2.1
def dX11_key_9 := dc_cX11_key_dX11_key_0_0.2.2.2.2.2.2.2.2.1
def dX11_key_10 := dc_cX11_key_dX11_key_0_0.2.2.2.2.2.2.2.2.2
set_option maxRecDepth 100000 in
theorem db_cX11_isState_dX11_isState_0_0 : zw [(0, .iload_n 2, 1), (1, .iconst 0, 1), (2, .aload_n 0, 1), (3, .getfield 7, 3), (6, .iload_n 1, 1), (7, .iaload, 1), (8, .iconst 1, 1), (9, .isub, 1), (10, .invokestatic 26, 3), (13, .ireturn, 1)] (cX11_isState.data.toList.drop 0) 0 = true := by decide +kernel
def dc_cX11_isState_dX11_isState_0_0 := zw_10 db_cX11_isState_dX11_isState_0_0
def dX11_isState_0 := dc_cX11_isState_dX11_isState_0_0.1
def dX11_isState_1 := dc_cX11_isState_dX11_isState_0_0.2.1
def dX11_isState_2 := dc_cX11_isState_dX11_isState_0_0.2.2.1
def dX11_isState_3 := dc_cX11_isState_dX11_isState_0_0.2.2.2.1
def dX11_isState_6 := dc_cX11_isState_dX11_isState_0_0.2.2.2.2.1
def dX11_isState_7 := dc_cX11_isState_dX11_isState_0_0.2.2.2.2.2.1
def dX11_isState_8 := dc_cX11_isState_dX11_isState_0_0.2.2.2.2.2.2.1
def dX11_isState_9 := dc_cX11_isState_dX11_isState_0_0.2.2.2.2.2.2.2.1
def dX11_isState_10 := dc_cX11_isState_dX11_isState_0_0.2.2.2.2.2.2.2.2.1
def dX11_isState_13 := dc_cX11_isState_dX11_isState_0_0.2.2.2.2.2.2.2.2.2
set_option maxRecDepth 100000 in
theorem db_cX11_did_dX11_did_0_0 : zw [(0, .aload_n 0, 1), (1, .dup, 1), (2, .getfield 30, 3), (5, .iconst 1, 1), (6, .iadd, 1), (7, .putfield 30, 3), (10, .iload_n 1, 1), (11, .ireturn, 1)] (cX11_did.data.toList.drop 0) 0 = true := by decide +kernel
def dc_cX11_did_dX11_did_0_0 := zw_8 db_cX11_did_dX11_did_0_0
def dX11_did_0 := dc_cX11_did_dX11_did_0_0.1
def dX11_did_1 := dc_cX11_did_dX11_did_0_0.2.1
def dX11_did_2 := dc_cX11_did_dX11_did_0_0.2.2.1
def dX11_did_5 := dc_cX11_did_dX11_did_0_0.2.2.2.1
def dX11_did_6 := dc_cX11_did_dX11_did_0_0.2.2.2.2.1
def dX11_did_7 := dc_cX11_did_dX11_did_0_0.2.2.2.2.2.1
def dX11_did_10 := dc_cX11_did_dX11_did_0_0.2.2.2.2.2.2.1
def dX11_did_11 := dc_cX11_did_dX11_did_0_0.2.2.2.2.2.2.2
set_option maxRecDepth 100000 in
theorem db_cX11_refuse_dX11_refuse_0_0 : zw [(0, .aload_n 0, 1), (1, .dup, 1), (2, .getfield 33, 3), (5, .iconst 1, 1), (6, .iadd, 1), (7, .putfield 33, 3), (10, .bipush (-9), 2), (12, .ireturn, 1)] (cX11_refuse.data.toList.drop 0) 0 = true := by decide +kernel
def dc_cX11_refuse_dX11_refuse_0_0 := zw_8 db_cX11_refuse_dX11_refuse_0_0
def dX11_refuse_0 := dc_cX11_refuse_dX11_refuse_0_0.1
def dX11_refuse_1 := dc_cX11_refuse_dX11_refuse_0_0.2.1
def dX11_refuse_2 := dc_cX11_refuse_dX11_refuse_0_0.2.2.1
def dX11_refuse_5 := dc_cX11_refuse_dX11_refuse_0_0.2.2.2.1
def dX11_refuse_6 := dc_cX11_refuse_dX11_refuse_0_0.2.2.2.2.1
def dX11_refuse_7 := dc_cX11_refuse_dX11_refuse_0_0.2.2.2.2.2.1
def dX11_refuse_10 := dc_cX11_refuse_dX11_refuse_0_0.2.2.2.2.2.2.1
def dX11_refuse_12 := dc_cX11_refuse_dX11_refuse_0_0.2.2.2.2.2.2.2
set_option maxRecDepth 100000 in
theorem db_cX11_arrowsOf_dX11_arrowsOf_0_0 : zw [(0, .iconst 0, 1), (1, .istore_n 2, 1), (2, .iload_n 1, 1), (3, .iconst 0, 1), (4, .iconst 0, 1), (5, .invokestatic 36, 3), (8, .istore_n 3, 1), (9, .iload_n 3, 1), (10, .iload_n 1, 1), (11, .iconst 0, 1), (12, .iconst 0, 1), (13, .invokestatic 36, 3), (16, .bipush 21, 2), (18, .iadd, 1), (19, .if_icmp .ge 21, 3), (22, .iload_n 2, 1)] (cX11_arrowsOf.data.toList.drop 0) 0 = true := by decide +kernel
def dc_cX11_arrowsOf_dX11_arrowsOf_0_0 := zw_16 db_cX11_arrowsOf_dX11_arrowsOf_0_0
def dX11_arrowsOf_0 := dc_cX11_arrowsOf_dX11_arrowsOf_0_0.1
def dX11_arrowsOf_1 := dc_cX11_arrowsOf_dX11_arrowsOf_0_0.2.1
def dX11_arrowsOf_2 := dc_cX11_arrowsOf_dX11_arrowsOf_0_0.2.2.1
def dX11_arrowsOf_3 := dc_cX11_arrowsOf_dX11_arrowsOf_0_0.2.2.2.1
def dX11_arrowsOf_4 := dc_cX11_arrowsOf_dX11_arrowsOf_0_0.2.2.2.2.1
def dX11_arrowsOf_5 := dc_cX11_arrowsOf_dX11_arrowsOf_0_0.2.2.2.2.2.1
def dX11_arrowsOf_8 := dc_cX11_arrowsOf_dX11_arrowsOf_0_0.2.2.2.2.2.2.1
def dX11_arrowsOf_9 := dc_cX11_arrowsOf_dX11_arrowsOf_0_0.2.2.2.2.2.2.2.1
def dX11_arrowsOf_10 := dc_cX11_arrowsOf_dX11_arrowsOf_0_0.2.2.2.2.2.2.2.2.1
def dX11_arrowsOf_11 := dc_cX11_arrowsOf_dX11_arrowsOf_0_0.2.2.2.2.2.2.2.2.2.1
def dX11_arrowsOf_12 := dc_cX11_arrowsOf_dX11_arrowsOf_0_0.2.2.2.2.2.2.2.2.2.2.1
def dX11_arrowsOf_13 := dc_cX11_arrowsOf_dX11_arrowsOf_0_0.2.2.2.2.2.2.2.2.2.2.2.1
def dX11_arrowsOf_16 := dc_cX11_arrowsOf_dX11_arrowsOf_0_0.2.2.2.2.2.2.2.2.2.2.2.2.1
def dX11_arrowsOf_18 := dc_cX11_arrowsOf_dX11_arrowsOf_0_0.2.2.2.2.2.2.2.2.2.2.2.2.2.1
def dX11_arrowsOf_19 := dc_cX11_arrowsOf_dX11_arrowsOf_0_0.2.2.2.2.2.2.2.2.2.2.2.2.2.2.1
def dX11_arrowsOf_22 := dc_cX11_arrowsOf_dX11_arrowsOf_0_0.2.2.2.2.2.2.2.2.2.2.2.2.2.2.2
set_option maxRecDepth 100000 in
theorem db_cX11_arrowsOf_dX11_arrowsOf_23_1 : zw [(23, .aload_n 0, 1), (24, .getfield 19, 3), (27, .iload_n 3, 1), (28, .iaload, 1), (29, .invokestatic 40, 3), (32, .iadd, 1), (33, .istore_n 2, 1), (34, .iinc 3 1, 3), (37, .goto (-28), 3), (40, .iload_n 2, 1), (41, .ireturn, 1)] (cX11_arrowsOf.data.toList.drop 23) 23 = true := by decide +kernel
def dc_cX11_arrowsOf_dX11_arrowsOf_23_1 := zw_11 db_cX11_arrowsOf_dX11_arrowsOf_23_1
def dX11_arrowsOf_23 := dc_cX11_arrowsOf_dX11_arrowsOf_23_1.1
def dX11_arrowsOf_24 := dc_cX11_arrowsOf_dX11_arrowsOf_23_1.2.1
def dX11_arrowsOf_27 := dc_cX11_arrowsOf_dX11_arrowsOf_23_1.2.2.1
def dX11_arrowsOf_28 := dc_cX11_arrowsOf_dX11_arrowsOf_23_1.2.2.2.1
def dX11_arrowsOf_29 := dc_cX11_arrowsOf_dX11_arrowsOf_23_1.2.2.2.2.1
def dX11_arrowsOf_32 := dc_cX11_arrowsOf_dX11_arrowsOf_23_1.2.2.2.2.2.1
def dX11_arrowsOf_33 := dc_cX11_arrowsOf_dX11_arrowsOf_23_1.2.2.2.2.2.2.1
def dX11_arrowsOf_34 := dc_cX11_arrowsOf_dX11_arrowsOf_23_1.2.2.2.2.2.2.2.1
def dX11_arrowsOf_37 := dc_cX11_arrowsOf_dX11_arrowsOf_23_1.2.2.2.2.2.2.2.2.1
def dX11_arrowsOf_40 := dc_cX11_arrowsOf_dX11_arrowsOf_23_1.2.2.2.2.2.2.2.2.2.1
def dX11_arrowsOf_41 := dc_cX11_arrowsOf_dX11_arrowsOf_23_1.2.2.2.2.2.2.2.2.2.2
set_option maxRecDepth 100000 in
theorem db_cX11_isPlain_dX11_isPlain_0_0 : zw [(0, .aload_n 0, 1), (1, .getfield 13, 3), (4, .iload_n 1, 1), (5, .iaload, 1), (6, .invokestatic 40, 3), (9, .iconst 1, 1), (10, .if_icmp .ne 7, 3), (13, .iconst 1, 1), (14, .goto 4, 3), (17, .iconst 0, 1), (18, .istore_n 2, 1), (19, .iconst 0, 1), (20, .istore_n 3, 1), (21, .iload_n 3, 1), (22, .aload_n 0, 1), (23, .getfield 7, 3)] (cX11_isPlain.data.toList.drop 0) 0 = true := by decide +kernel
def dc_cX11_isPlain_dX11_isPlain_0_0 := zw_16 db_cX11_isPlain_dX11_isPlain_0_0
def dX11_isPlain_0 := dc_cX11_isPlain_dX11_isPlain_0_0.1
def dX11_isPlain_1 := dc_cX11_isPlain_dX11_isPlain_0_0.2.1
def dX11_isPlain_4 := dc_cX11_isPlain_dX11_isPlain_0_0.2.2.1
def dX11_isPlain_5 := dc_cX11_isPlain_dX11_isPlain_0_0.2.2.2.1
def dX11_isPlain_6 := dc_cX11_isPlain_dX11_isPlain_0_0.2.2.2.2.1
def dX11_isPlain_9 := dc_cX11_isPlain_dX11_isPlain_0_0.2.2.2.2.2.1
def dX11_isPlain_10 := dc_cX11_isPlain_dX11_isPlain_0_0.2.2.2.2.2.2.1
def dX11_isPlain_13 := dc_cX11_isPlain_dX11_isPlain_0_0.2.2.2.2.2.2.2.1
def dX11_isPlain_14 := dc_cX11_isPlain_dX11_isPlain_0_0.2.2.2.2.2.2.2.2.1
def dX11_isPlain_17 := dc_cX11_isPlain_dX11_isPlain_0_0.2.2.2.2.2.2.2.2.2.1
def dX11_isPlain_18 := dc_cX11_isPlain_dX11_isPlain_0_0.2.2.2.2.2.2.2.2.2.2.1
def dX11_isPlain_19 := dc_cX11_isPlain_dX11_isPlain_0_0.2.2.2.2.2.2.2.2.2.2.2.1
def dX11_isPlain_20 := dc_cX11_isPlain_dX11_isPlain_0_0.2.2.2.2.2.2.2.2.2.2.2.2.1
def dX11_isPlain_21 := dc_cX11_isPlain_dX11_isPlain_0_0.2.2.2.2.2.2.2.2.2.2.2.2.2.1
def dX11_isPlain_22 := dc_cX11_isPlain_dX11_isPlain_0_0.2.2.2.2.2.2.2.2.2.2.2.2.2.2.1
def dX11_isPlain_23 := dc_cX11_isPlain_dX11_isPlain_0_0.2.2.2.2.2.2.2.2.2.2.2.2.2.2.2
set_option maxRecDepth 100000 in
theorem db_cX11_isPlain_dX11_isPlain_26_1 : zw [(26, .iload_n 1, 1), (27, .iaload, 1), (28, .if_icmp .ge 51, 3), (31, .iconst 0, 1), (32, .istore 4, 2), (34, .iload 4, 2), (36, .iconst 3, 1), (37, .if_icmp .ge 36, 3), (40, .iload_n 2, 1), (41, .aload_n 0, 1), (42, .getfield 19, 3), (45, .iload_n 1, 1), (46, .iload_n 3, 1), (47, .iload 4, 2), (49, .invokestatic 36, 3), (52, .iaload, 1)] (cX11_isPlain.data.toList.drop 26) 26 = true := by decide +kernel
def dc_cX11_isPlain_dX11_isPlain_26_1 := zw_16 db_cX11_isPlain_dX11_isPlain_26_1
def dX11_isPlain_26 := dc_cX11_isPlain_dX11_isPlain_26_1.1
def dX11_isPlain_27 := dc_cX11_isPlain_dX11_isPlain_26_1.2.1
def dX11_isPlain_28 := dc_cX11_isPlain_dX11_isPlain_26_1.2.2.1
def dX11_isPlain_31 := dc_cX11_isPlain_dX11_isPlain_26_1.2.2.2.1
def dX11_isPlain_32 := dc_cX11_isPlain_dX11_isPlain_26_1.2.2.2.2.1
def dX11_isPlain_34 := dc_cX11_isPlain_dX11_isPlain_26_1.2.2.2.2.2.1
def dX11_isPlain_36 := dc_cX11_isPlain_dX11_isPlain_26_1.2.2.2.2.2.2.1
def dX11_isPlain_37 := dc_cX11_isPlain_dX11_isPlain_26_1.2.2.2.2.2.2.2.1
def dX11_isPlain_40 := dc_cX11_isPlain_dX11_isPlain_26_1.2.2.2.2.2.2.2.2.1
def dX11_isPlain_41 := dc_cX11_isPlain_dX11_isPlain_26_1.2.2.2.2.2.2.2.2.2.1
def dX11_isPlain_42 := dc_cX11_isPlain_dX11_isPlain_26_1.2.2.2.2.2.2.2.2.2.2.1
def dX11_isPlain_45 := dc_cX11_isPlain_dX11_isPlain_26_1.2.2.2.2.2.2.2.2.2.2.2.1
def dX11_isPlain_46 := dc_cX11_isPlain_dX11_isPlain_26_1.2.2.2.2.2.2.2.2.2.2.2.2.1
def dX11_isPlain_47 := dc_cX11_isPlain_dX11_isPlain_26_1.2.2.2.2.2.2.2.2.2.2.2.2.2.1
def dX11_isPlain_49 := dc_cX11_isPlain_dX11_isPlain_26_1.2.2.2.2.2.2.2.2.2.2.2.2.2.2.1
def dX11_isPlain_52 := dc_cX11_isPlain_dX11_isPlain_26_1.2.2.2.2.2.2.2.2.2.2.2.2.2.2.2
set_option maxRecDepth 100000 in
theorem db_cX11_isPlain_dX11_isPlain_53_2 : zw [(53, .invokestatic 40, 3), (56, .iconst 1, 1), (57, .if_icmp .ne 7, 3), (60, .iconst 1, 1), (61, .goto 4, 3), (64, .iconst 0, 1), (65, .iand, 1), (66, .istore_n 2, 1), (67, .iinc 4 1, 3), (70, .goto (-36), 3), (73, .iinc 3 1, 3), (76, .goto (-55), 3), (79, .iload_n 2, 1), (80, .ireturn, 1)] (cX11_isPlain.data.toList.drop 53) 53 = true := by decide +kernel
def dc_cX11_isPlain_dX11_isPlain_53_2 := zw_14 db_cX11_isPlain_dX11_isPlain_53_2
def dX11_isPlain_53 := dc_cX11_isPlain_dX11_isPlain_53_2.1
def dX11_isPlain_56 := dc_cX11_isPlain_dX11_isPlain_53_2.2.1
def dX11_isPlain_57 := dc_cX11_isPlain_dX11_isPlain_53_2.2.2.1
def dX11_isPlain_60 := dc_cX11_isPlain_dX11_isPlain_53_2.2.2.2.1
def dX11_isPlain_61 := dc_cX11_isPlain_dX11_isPlain_53_2.2.2.2.2.1
def dX11_isPlain_64 := dc_cX11_isPlain_dX11_isPlain_53_2.2.2.2.2.2.1
def dX11_isPlain_65 := dc_cX11_isPlain_dX11_isPlain_53_2.2.2.2.2.2.2.1
def dX11_isPlain_66 := dc_cX11_isPlain_dX11_isPlain_53_2.2.2.2.2.2.2.2.1
def dX11_isPlain_67 := dc_cX11_isPlain_dX11_isPlain_53_2.2.2.2.2.2.2.2.2.1
def dX11_isPlain_70 := dc_cX11_isPlain_dX11_isPlain_53_2.2.2.2.2.2.2.2.2.2.1
def dX11_isPlain_73 := dc_cX11_isPlain_dX11_isPlain_53_2.2.2.2.2.2.2.2.2.2.2.1
def dX11_isPlain_76 := dc_cX11_isPlain_dX11_isPlain_53_2.2.2.2.2.2.2.2.2.2.2.2.1
def dX11_isPlain_79 := dc_cX11_isPlain_dX11_isPlain_53_2.2.2.2.2.2.2.2.2.2.2.2.2.1
def dX11_isPlain_80 := dc_cX11_isPlain_dX11_isPlain_53_2.2.2.2.2.2.2.2.2.2.2.2.2.2
set_option maxRecDepth 100000 in
theorem db_cX11_next_dX11_next_0_0 : zw [(0, .lconst 0, 1), (1, .lstore 6, 2), (3, .iconst 0, 1), (4, .istore 8, 2), (6, .iload 8, 2), (8, .iload_n 1, 1), (9, .if_icmp .ge 95, 3), (12, .iconst 0, 1), (13, .istore 9, 2), (15, .iload 9, 2), (17, .iload_n 1, 1), (18, .if_icmp .ge 80, 3), (21, .aload_n 0, 1), (22, .iconst 3, 1), (23, .iload 5, 2), (25, .ifCond .eq 8, 3)] (cX11_next.data.toList.drop 0) 0 = true := by decide +kernel
def dc_cX11_next_dX11_next_0_0 := zw_16 db_cX11_next_dX11_next_0_0
def dX11_next_0 := dc_cX11_next_dX11_next_0_0.1
def dX11_next_1 := dc_cX11_next_dX11_next_0_0.2.1
def dX11_next_3 := dc_cX11_next_dX11_next_0_0.2.2.1
def dX11_next_4 := dc_cX11_next_dX11_next_0_0.2.2.2.1
def dX11_next_6 := dc_cX11_next_dX11_next_0_0.2.2.2.2.1
def dX11_next_8 := dc_cX11_next_dX11_next_0_0.2.2.2.2.2.1
def dX11_next_9 := dc_cX11_next_dX11_next_0_0.2.2.2.2.2.2.1
def dX11_next_12 := dc_cX11_next_dX11_next_0_0.2.2.2.2.2.2.2.1
def dX11_next_13 := dc_cX11_next_dX11_next_0_0.2.2.2.2.2.2.2.2.1
def dX11_next_15 := dc_cX11_next_dX11_next_0_0.2.2.2.2.2.2.2.2.2.1
def dX11_next_17 := dc_cX11_next_dX11_next_0_0.2.2.2.2.2.2.2.2.2.2.1
def dX11_next_18 := dc_cX11_next_dX11_next_0_0.2.2.2.2.2.2.2.2.2.2.2.1
def dX11_next_21 := dc_cX11_next_dX11_next_0_0.2.2.2.2.2.2.2.2.2.2.2.2.1
def dX11_next_22 := dc_cX11_next_dX11_next_0_0.2.2.2.2.2.2.2.2.2.2.2.2.2.1
def dX11_next_23 := dc_cX11_next_dX11_next_0_0.2.2.2.2.2.2.2.2.2.2.2.2.2.2.1
def dX11_next_25 := dc_cX11_next_dX11_next_0_0.2.2.2.2.2.2.2.2.2.2.2.2.2.2.2
set_option maxRecDepth 100000 in
theorem db_cX11_next_dX11_next_28_1 : zw [(28, .iload 9, 2), (30, .goto 5, 3), (33, .iload 8, 2), (35, .imul, 1), (36, .iload 4, 2), (38, .iadd, 1), (39, .laload, 1), (40, .iload 5, 2), (42, .ifCond .eq 8, 3), (45, .iload 8, 2), (47, .goto 5, 3), (50, .iload 9, 2), (52, .lshr, 1), (53, .lconst 1, 1), (54, .land, 1), (55, .lconst 1, 1)] (cX11_next.data.toList.drop 28) 28 = true := by decide +kernel
def dc_cX11_next_dX11_next_28_1 := zw_16 db_cX11_next_dX11_next_28_1
def dX11_next_28 := dc_cX11_next_dX11_next_28_1.1
def dX11_next_30 := dc_cX11_next_dX11_next_28_1.2.1
def dX11_next_33 := dc_cX11_next_dX11_next_28_1.2.2.1
def dX11_next_35 := dc_cX11_next_dX11_next_28_1.2.2.2.1
def dX11_next_36 := dc_cX11_next_dX11_next_28_1.2.2.2.2.1
def dX11_next_38 := dc_cX11_next_dX11_next_28_1.2.2.2.2.2.1
def dX11_next_39 := dc_cX11_next_dX11_next_28_1.2.2.2.2.2.2.1
def dX11_next_40 := dc_cX11_next_dX11_next_28_1.2.2.2.2.2.2.2.1
def dX11_next_42 := dc_cX11_next_dX11_next_28_1.2.2.2.2.2.2.2.2.1
def dX11_next_45 := dc_cX11_next_dX11_next_28_1.2.2.2.2.2.2.2.2.2.1
def dX11_next_47 := dc_cX11_next_dX11_next_28_1.2.2.2.2.2.2.2.2.2.2.1
def dX11_next_50 := dc_cX11_next_dX11_next_28_1.2.2.2.2.2.2.2.2.2.2.2.1
def dX11_next_52 := dc_cX11_next_dX11_next_28_1.2.2.2.2.2.2.2.2.2.2.2.2.1
def dX11_next_53 := dc_cX11_next_dX11_next_28_1.2.2.2.2.2.2.2.2.2.2.2.2.2.1
def dX11_next_54 := dc_cX11_next_dX11_next_28_1.2.2.2.2.2.2.2.2.2.2.2.2.2.2.1
def dX11_next_55 := dc_cX11_next_dX11_next_28_1.2.2.2.2.2.2.2.2.2.2.2.2.2.2.2
set_option maxRecDepth 100000 in
theorem db_cX11_next_dX11_next_56_2 : zw [(56, .lcmp, 1), (57, .ifCond .ne 7, 3), (60, .iconst 1, 1), (61, .goto 4, 3), (64, .iconst 0, 1), (65, .istore 10, 2), (67, .iload 10, 2), (69, .ifCond .eq 23, 3), (72, .lload_n 2, 1), (73, .iload 8, 2), (75, .lshr, 1), (76, .lconst 1, 1), (77, .land, 1), (78, .lconst 1, 1), (79, .lcmp, 1), (80, .ifCond .ne 12, 3)] (cX11_next.data.toList.drop 56) 56 = true := by decide +kernel
def dc_cX11_next_dX11_next_56_2 := zw_16 db_cX11_next_dX11_next_56_2
def dX11_next_56 := dc_cX11_next_dX11_next_56_2.1
def dX11_next_57 := dc_cX11_next_dX11_next_56_2.2.1
def dX11_next_60 := dc_cX11_next_dX11_next_56_2.2.2.1
def dX11_next_61 := dc_cX11_next_dX11_next_56_2.2.2.2.1
def dX11_next_64 := dc_cX11_next_dX11_next_56_2.2.2.2.2.1
def dX11_next_65 := dc_cX11_next_dX11_next_56_2.2.2.2.2.2.1
def dX11_next_67 := dc_cX11_next_dX11_next_56_2.2.2.2.2.2.2.1
def dX11_next_69 := dc_cX11_next_dX11_next_56_2.2.2.2.2.2.2.2.1
def dX11_next_72 := dc_cX11_next_dX11_next_56_2.2.2.2.2.2.2.2.2.1
def dX11_next_73 := dc_cX11_next_dX11_next_56_2.2.2.2.2.2.2.2.2.2.1
def dX11_next_75 := dc_cX11_next_dX11_next_56_2.2.2.2.2.2.2.2.2.2.2.1
def dX11_next_76 := dc_cX11_next_dX11_next_56_2.2.2.2.2.2.2.2.2.2.2.2.1
def dX11_next_77 := dc_cX11_next_dX11_next_56_2.2.2.2.2.2.2.2.2.2.2.2.2.1
def dX11_next_78 := dc_cX11_next_dX11_next_56_2.2.2.2.2.2.2.2.2.2.2.2.2.2.1
def dX11_next_79 := dc_cX11_next_dX11_next_56_2.2.2.2.2.2.2.2.2.2.2.2.2.2.2.1
def dX11_next_80 := dc_cX11_next_dX11_next_56_2.2.2.2.2.2.2.2.2.2.2.2.2.2.2.2
set_option maxRecDepth 100000 in
theorem db_cX11_next_dX11_next_83_3 : zw [(83, .lload 6, 2), (85, .lconst 1, 1), (86, .iload 9, 2), (88, .lshl, 1), (89, .lor, 1), (90, .lstore 6, 2), (92, .iinc 9 1, 3), (95, .goto (-80), 3), (98, .iinc 8 1, 3), (101, .goto (-95), 3), (104, .lload 6, 2), (106, .lreturn, 1)] (cX11_next.data.toList.drop 83) 83 = true := by decide +kernel
def dc_cX11_next_dX11_next_83_3 := zw_12 db_cX11_next_dX11_next_83_3
def dX11_next_83 := dc_cX11_next_dX11_next_83_3.1
def dX11_next_85 := dc_cX11_next_dX11_next_83_3.2.1
def dX11_next_86 := dc_cX11_next_dX11_next_83_3.2.2.1
def dX11_next_88 := dc_cX11_next_dX11_next_83_3.2.2.2.1
def dX11_next_89 := dc_cX11_next_dX11_next_83_3.2.2.2.2.1
def dX11_next_90 := dc_cX11_next_dX11_next_83_3.2.2.2.2.2.1
def dX11_next_92 := dc_cX11_next_dX11_next_83_3.2.2.2.2.2.2.1
def dX11_next_95 := dc_cX11_next_dX11_next_83_3.2.2.2.2.2.2.2.1
def dX11_next_98 := dc_cX11_next_dX11_next_83_3.2.2.2.2.2.2.2.2.1
def dX11_next_101 := dc_cX11_next_dX11_next_83_3.2.2.2.2.2.2.2.2.2.1
def dX11_next_104 := dc_cX11_next_dX11_next_83_3.2.2.2.2.2.2.2.2.2.2.1
def dX11_next_106 := dc_cX11_next_dX11_next_83_3.2.2.2.2.2.2.2.2.2.2.2
set_option maxRecDepth 100000 in
theorem db_cX11_part_dX11_part_0_0 : zw [(0, .iload_n 1, 1)] (cX11_part.data.toList.drop 0) 0 = true := by decide +kernel
def dX11_part_0 := zw_1 db_cX11_part_dX11_part_0_0
theorem dX11_part_1 : decode cX11_part 1 = .ok (.newarray .int, 2) := by decide +kernel
set_option maxRecDepth 100000 in
theorem db_cX11_part_dX11_part_3_1 : zw [(3, .astore_n 2, 1), (4, .iconst 0, 1), (5, .istore_n 3, 1), (6, .iload_n 3, 1), (7, .iload_n 1, 1), (8, .if_icmp .ge 15, 3), (11, .aload_n 2, 1), (12, .iload_n 3, 1), (13, .aload_n 0, 1), (14, .iload_n 3, 1), (15, .iaload, 1), (16, .iastore, 1), (17, .iinc 3 1, 3), (20, .goto (-14), 3), (23, .aload_n 2, 1), (24, .areturn, 1)] (cX11_part.data.toList.drop 3) 3 = true := by decide +kernel
def dc_cX11_part_dX11_part_3_1 := zw_16 db_cX11_part_dX11_part_3_1
def dX11_part_3 := dc_cX11_part_dX11_part_3_1.1
def dX11_part_4 := dc_cX11_part_dX11_part_3_1.2.1
def dX11_part_5 := dc_cX11_part_dX11_part_3_1.2.2.1
def dX11_part_6 := dc_cX11_part_dX11_part_3_1.2.2.2.1
def dX11_part_7 := dc_cX11_part_dX11_part_3_1.2.2.2.2.1
def dX11_part_8 := dc_cX11_part_dX11_part_3_1.2.2.2.2.2.1
def dX11_part_11 := dc_cX11_part_dX11_part_3_1.2.2.2.2.2.2.1
def dX11_part_12 := dc_cX11_part_dX11_part_3_1.2.2.2.2.2.2.2.1
def dX11_part_13 := dc_cX11_part_dX11_part_3_1.2.2.2.2.2.2.2.2.1
def dX11_part_14 := dc_cX11_part_dX11_part_3_1.2.2.2.2.2.2.2.2.2.1
def dX11_part_15 := dc_cX11_part_dX11_part_3_1.2.2.2.2.2.2.2.2.2.2.1
def dX11_part_16 := dc_cX11_part_dX11_part_3_1.2.2.2.2.2.2.2.2.2.2.2.1
def dX11_part_17 := dc_cX11_part_dX11_part_3_1.2.2.2.2.2.2.2.2.2.2.2.2.1
def dX11_part_20 := dc_cX11_part_dX11_part_3_1.2.2.2.2.2.2.2.2.2.2.2.2.2.1
def dX11_part_23 := dc_cX11_part_dX11_part_3_1.2.2.2.2.2.2.2.2.2.2.2.2.2.2.1
def dX11_part_24 := dc_cX11_part_dX11_part_3_1.2.2.2.2.2.2.2.2.2.2.2.2.2.2.2
set_option maxRecDepth 100000 in
theorem db_cX11_oneWay_dX11_oneWay_0_0 : zw [(0, .bipush 32, 2)] (cX11_oneWay.data.toList.drop 0) 0 = true := by decide +kernel
def dX11_oneWay_0 := zw_1 db_cX11_oneWay_dX11_oneWay_0_0
theorem dX11_oneWay_2 : decode cX11_oneWay 2 = .ok (.newarray .long, 2) := by decide +kernel
set_option maxRecDepth 100000 in
theorem db_cX11_oneWay_dX11_oneWay_4_1 : zw [(4, .astore 7, 2), (6, .sipush 128, 3)] (cX11_oneWay.data.toList.drop 4) 4 = true := by decide +kernel
def dc_cX11_oneWay_dX11_oneWay_4_1 := zw_2 db_cX11_oneWay_dX11_oneWay_4_1
def dX11_oneWay_4 := dc_cX11_oneWay_dX11_oneWay_4_1.1
def dX11_oneWay_6 := dc_cX11_oneWay_dX11_oneWay_4_1.2
theorem dX11_oneWay_9 : decode cX11_oneWay 9 = .ok (.newarray .int, 2) := by decide +kernel
set_option maxRecDepth 100000 in
theorem db_cX11_oneWay_dX11_oneWay_11_2 : zw [(11, .astore 8, 2), (13, .iconst 1, 1), (14, .istore 9, 2), (16, .aload 7, 2), (18, .iconst 0, 1), (19, .iload 6, 2), (21, .ifCond .eq 8, 3), (24, .lload 4, 2), (26, .goto 4, 3), (29, .lload_n 2, 1), (30, .lastore, 1), (31, .iconst 0, 1), (32, .istore 10, 2), (34, .iload 10, 2), (36, .iload 9, 2), (38, .if_icmp .ge 141, 3)] (cX11_oneWay.data.toList.drop 11) 11 = true := by decide +kernel
def dc_cX11_oneWay_dX11_oneWay_11_2 := zw_16 db_cX11_oneWay_dX11_oneWay_11_2
def dX11_oneWay_11 := dc_cX11_oneWay_dX11_oneWay_11_2.1
def dX11_oneWay_13 := dc_cX11_oneWay_dX11_oneWay_11_2.2.1
def dX11_oneWay_14 := dc_cX11_oneWay_dX11_oneWay_11_2.2.2.1
def dX11_oneWay_16 := dc_cX11_oneWay_dX11_oneWay_11_2.2.2.2.1
def dX11_oneWay_18 := dc_cX11_oneWay_dX11_oneWay_11_2.2.2.2.2.1
def dX11_oneWay_19 := dc_cX11_oneWay_dX11_oneWay_11_2.2.2.2.2.2.1
def dX11_oneWay_21 := dc_cX11_oneWay_dX11_oneWay_11_2.2.2.2.2.2.2.1
def dX11_oneWay_24 := dc_cX11_oneWay_dX11_oneWay_11_2.2.2.2.2.2.2.2.1
def dX11_oneWay_26 := dc_cX11_oneWay_dX11_oneWay_11_2.2.2.2.2.2.2.2.2.1
def dX11_oneWay_29 := dc_cX11_oneWay_dX11_oneWay_11_2.2.2.2.2.2.2.2.2.2.1
def dX11_oneWay_30 := dc_cX11_oneWay_dX11_oneWay_11_2.2.2.2.2.2.2.2.2.2.2.1
def dX11_oneWay_31 := dc_cX11_oneWay_dX11_oneWay_11_2.2.2.2.2.2.2.2.2.2.2.2.1
def dX11_oneWay_32 := dc_cX11_oneWay_dX11_oneWay_11_2.2.2.2.2.2.2.2.2.2.2.2.2.1
def dX11_oneWay_34 := dc_cX11_oneWay_dX11_oneWay_11_2.2.2.2.2.2.2.2.2.2.2.2.2.2.1
def dX11_oneWay_36 := dc_cX11_oneWay_dX11_oneWay_11_2.2.2.2.2.2.2.2.2.2.2.2.2.2.2.1
def dX11_oneWay_38 := dc_cX11_oneWay_dX11_oneWay_11_2.2.2.2.2.2.2.2.2.2.2.2.2.2.2.2
set_option maxRecDepth 100000 in
theorem db_cX11_oneWay_dX11_oneWay_41_3 : zw [(41, .aload 8, 2), (43, .iconst 4, 1), (44, .iload 10, 2), (46, .imul, 1), (47, .iconst 3, 1), (48, .iadd, 1), (49, .aload 7, 2), (51, .iload 10, 2), (53, .laload, 1), (54, .iload 6, 2), (56, .ifCond .eq 7, 3), (59, .lload_n 2, 1), (60, .goto 5, 3), (63, .lload 4, 2), (65, .land, 1), (66, .lconst 0, 1)] (cX11_oneWay.data.toList.drop 41) 41 = true := by decide +kernel
def dc_cX11_oneWay_dX11_oneWay_41_3 := zw_16 db_cX11_oneWay_dX11_oneWay_41_3
def dX11_oneWay_41 := dc_cX11_oneWay_dX11_oneWay_41_3.1
def dX11_oneWay_43 := dc_cX11_oneWay_dX11_oneWay_41_3.2.1
def dX11_oneWay_44 := dc_cX11_oneWay_dX11_oneWay_41_3.2.2.1
def dX11_oneWay_46 := dc_cX11_oneWay_dX11_oneWay_41_3.2.2.2.1
def dX11_oneWay_47 := dc_cX11_oneWay_dX11_oneWay_41_3.2.2.2.2.1
def dX11_oneWay_48 := dc_cX11_oneWay_dX11_oneWay_41_3.2.2.2.2.2.1
def dX11_oneWay_49 := dc_cX11_oneWay_dX11_oneWay_41_3.2.2.2.2.2.2.1
def dX11_oneWay_51 := dc_cX11_oneWay_dX11_oneWay_41_3.2.2.2.2.2.2.2.1
def dX11_oneWay_53 := dc_cX11_oneWay_dX11_oneWay_41_3.2.2.2.2.2.2.2.2.1
def dX11_oneWay_54 := dc_cX11_oneWay_dX11_oneWay_41_3.2.2.2.2.2.2.2.2.2.1
def dX11_oneWay_56 := dc_cX11_oneWay_dX11_oneWay_41_3.2.2.2.2.2.2.2.2.2.2.1
def dX11_oneWay_59 := dc_cX11_oneWay_dX11_oneWay_41_3.2.2.2.2.2.2.2.2.2.2.2.1
def dX11_oneWay_60 := dc_cX11_oneWay_dX11_oneWay_41_3.2.2.2.2.2.2.2.2.2.2.2.2.1
def dX11_oneWay_63 := dc_cX11_oneWay_dX11_oneWay_41_3.2.2.2.2.2.2.2.2.2.2.2.2.2.1
def dX11_oneWay_65 := dc_cX11_oneWay_dX11_oneWay_41_3.2.2.2.2.2.2.2.2.2.2.2.2.2.2.1
def dX11_oneWay_66 := dc_cX11_oneWay_dX11_oneWay_41_3.2.2.2.2.2.2.2.2.2.2.2.2.2.2.2
set_option maxRecDepth 100000 in
theorem db_cX11_oneWay_dX11_oneWay_67_4 : zw [(67, .lcmp, 1), (68, .ifCond .eq 7, 3), (71, .iconst 1, 1), (72, .goto 4, 3), (75, .iconst 0, 1), (76, .iastore, 1), (77, .iconst 0, 1), (78, .istore 11, 2), (80, .iload 11, 2), (82, .iconst 3, 1), (83, .if_icmp .ge 90, 3), (86, .aload_n 0, 1), (87, .iload_n 1, 1), (88, .aload 7, 2), (90, .iload 10, 2), (92, .laload, 1)] (cX11_oneWay.data.toList.drop 67) 67 = true := by decide +kernel
def dc_cX11_oneWay_dX11_oneWay_67_4 := zw_16 db_cX11_oneWay_dX11_oneWay_67_4
def dX11_oneWay_67 := dc_cX11_oneWay_dX11_oneWay_67_4.1
def dX11_oneWay_68 := dc_cX11_oneWay_dX11_oneWay_67_4.2.1
def dX11_oneWay_71 := dc_cX11_oneWay_dX11_oneWay_67_4.2.2.1
def dX11_oneWay_72 := dc_cX11_oneWay_dX11_oneWay_67_4.2.2.2.1
def dX11_oneWay_75 := dc_cX11_oneWay_dX11_oneWay_67_4.2.2.2.2.1
def dX11_oneWay_76 := dc_cX11_oneWay_dX11_oneWay_67_4.2.2.2.2.2.1
def dX11_oneWay_77 := dc_cX11_oneWay_dX11_oneWay_67_4.2.2.2.2.2.2.1
def dX11_oneWay_78 := dc_cX11_oneWay_dX11_oneWay_67_4.2.2.2.2.2.2.2.1
def dX11_oneWay_80 := dc_cX11_oneWay_dX11_oneWay_67_4.2.2.2.2.2.2.2.2.1
def dX11_oneWay_82 := dc_cX11_oneWay_dX11_oneWay_67_4.2.2.2.2.2.2.2.2.2.1
def dX11_oneWay_83 := dc_cX11_oneWay_dX11_oneWay_67_4.2.2.2.2.2.2.2.2.2.2.1
def dX11_oneWay_86 := dc_cX11_oneWay_dX11_oneWay_67_4.2.2.2.2.2.2.2.2.2.2.2.1
def dX11_oneWay_87 := dc_cX11_oneWay_dX11_oneWay_67_4.2.2.2.2.2.2.2.2.2.2.2.2.1
def dX11_oneWay_88 := dc_cX11_oneWay_dX11_oneWay_67_4.2.2.2.2.2.2.2.2.2.2.2.2.2.1
def dX11_oneWay_90 := dc_cX11_oneWay_dX11_oneWay_67_4.2.2.2.2.2.2.2.2.2.2.2.2.2.2.1
def dX11_oneWay_92 := dc_cX11_oneWay_dX11_oneWay_67_4.2.2.2.2.2.2.2.2.2.2.2.2.2.2.2
set_option maxRecDepth 100000 in
theorem db_cX11_oneWay_dX11_oneWay_93_5 : zw [(93, .iload 11, 2), (95, .iload 6, 2), (97, .invokestatic 46, 3), (100, .lstore 12, 2), (102, .iconst 0, 1), (103, .istore 14, 2), (105, .iload 14, 2), (107, .iload 9, 2), (109, .if_icmp .ge 20, 3), (112, .aload 7, 2), (114, .iload 14, 2), (116, .laload, 1), (117, .lload 12, 2), (119, .lcmp, 1), (120, .ifCond .eq 9, 3), (123, .iinc 14 1, 3)] (cX11_oneWay.data.toList.drop 93) 93 = true := by decide +kernel
def dc_cX11_oneWay_dX11_oneWay_93_5 := zw_16 db_cX11_oneWay_dX11_oneWay_93_5
def dX11_oneWay_93 := dc_cX11_oneWay_dX11_oneWay_93_5.1
def dX11_oneWay_95 := dc_cX11_oneWay_dX11_oneWay_93_5.2.1
def dX11_oneWay_97 := dc_cX11_oneWay_dX11_oneWay_93_5.2.2.1
def dX11_oneWay_100 := dc_cX11_oneWay_dX11_oneWay_93_5.2.2.2.1
def dX11_oneWay_102 := dc_cX11_oneWay_dX11_oneWay_93_5.2.2.2.2.1
def dX11_oneWay_103 := dc_cX11_oneWay_dX11_oneWay_93_5.2.2.2.2.2.1
def dX11_oneWay_105 := dc_cX11_oneWay_dX11_oneWay_93_5.2.2.2.2.2.2.1
def dX11_oneWay_107 := dc_cX11_oneWay_dX11_oneWay_93_5.2.2.2.2.2.2.2.1
def dX11_oneWay_109 := dc_cX11_oneWay_dX11_oneWay_93_5.2.2.2.2.2.2.2.2.1
def dX11_oneWay_112 := dc_cX11_oneWay_dX11_oneWay_93_5.2.2.2.2.2.2.2.2.2.1
def dX11_oneWay_114 := dc_cX11_oneWay_dX11_oneWay_93_5.2.2.2.2.2.2.2.2.2.2.1
def dX11_oneWay_116 := dc_cX11_oneWay_dX11_oneWay_93_5.2.2.2.2.2.2.2.2.2.2.2.1
def dX11_oneWay_117 := dc_cX11_oneWay_dX11_oneWay_93_5.2.2.2.2.2.2.2.2.2.2.2.2.1
def dX11_oneWay_119 := dc_cX11_oneWay_dX11_oneWay_93_5.2.2.2.2.2.2.2.2.2.2.2.2.2.1
def dX11_oneWay_120 := dc_cX11_oneWay_dX11_oneWay_93_5.2.2.2.2.2.2.2.2.2.2.2.2.2.2.1
def dX11_oneWay_123 := dc_cX11_oneWay_dX11_oneWay_93_5.2.2.2.2.2.2.2.2.2.2.2.2.2.2.2
set_option maxRecDepth 100000 in
theorem db_cX11_oneWay_dX11_oneWay_126_6 : zw [(126, .goto (-21), 3), (129, .iload 14, 2), (131, .bipush 32, 2), (133, .if_icmp .ne 5, 3), (136, .aconst_null, 1), (137, .areturn, 1), (138, .iload 14, 2), (140, .iload 9, 2), (142, .if_icmp .ne 13, 3), (145, .aload 7, 2), (147, .iload 9, 2), (149, .iinc 9 1, 3), (152, .lload 12, 2), (154, .lastore, 1), (155, .aload 8, 2), (157, .iconst 4, 1)] (cX11_oneWay.data.toList.drop 126) 126 = true := by decide +kernel
def dc_cX11_oneWay_dX11_oneWay_126_6 := zw_16 db_cX11_oneWay_dX11_oneWay_126_6
def dX11_oneWay_126 := dc_cX11_oneWay_dX11_oneWay_126_6.1
def dX11_oneWay_129 := dc_cX11_oneWay_dX11_oneWay_126_6.2.1
def dX11_oneWay_131 := dc_cX11_oneWay_dX11_oneWay_126_6.2.2.1
def dX11_oneWay_133 := dc_cX11_oneWay_dX11_oneWay_126_6.2.2.2.1
def dX11_oneWay_136 := dc_cX11_oneWay_dX11_oneWay_126_6.2.2.2.2.1
def dX11_oneWay_137 := dc_cX11_oneWay_dX11_oneWay_126_6.2.2.2.2.2.1
def dX11_oneWay_138 := dc_cX11_oneWay_dX11_oneWay_126_6.2.2.2.2.2.2.1
def dX11_oneWay_140 := dc_cX11_oneWay_dX11_oneWay_126_6.2.2.2.2.2.2.2.1
def dX11_oneWay_142 := dc_cX11_oneWay_dX11_oneWay_126_6.2.2.2.2.2.2.2.2.1
def dX11_oneWay_145 := dc_cX11_oneWay_dX11_oneWay_126_6.2.2.2.2.2.2.2.2.2.1
def dX11_oneWay_147 := dc_cX11_oneWay_dX11_oneWay_126_6.2.2.2.2.2.2.2.2.2.2.1
def dX11_oneWay_149 := dc_cX11_oneWay_dX11_oneWay_126_6.2.2.2.2.2.2.2.2.2.2.2.1
def dX11_oneWay_152 := dc_cX11_oneWay_dX11_oneWay_126_6.2.2.2.2.2.2.2.2.2.2.2.2.1
def dX11_oneWay_154 := dc_cX11_oneWay_dX11_oneWay_126_6.2.2.2.2.2.2.2.2.2.2.2.2.2.1
def dX11_oneWay_155 := dc_cX11_oneWay_dX11_oneWay_126_6.2.2.2.2.2.2.2.2.2.2.2.2.2.2.1
def dX11_oneWay_157 := dc_cX11_oneWay_dX11_oneWay_126_6.2.2.2.2.2.2.2.2.2.2.2.2.2.2.2
set_option maxRecDepth 100000 in
theorem db_cX11_oneWay_dX11_oneWay_158_7 : zw [(158, .iload 10, 2), (160, .imul, 1), (161, .iload 11, 2), (163, .iadd, 1), (164, .iload 14, 2), (166, .iastore, 1), (167, .iinc 11 1, 3), (170, .goto (-90), 3), (173, .iinc 10 1, 3), (176, .goto (-142), 3), (179, .aload 8, 2), (181, .iconst 4, 1), (182, .iload 9, 2), (184, .imul, 1), (185, .invokestatic 50, 3), (188, .areturn, 1)] (cX11_oneWay.data.toList.drop 158) 158 = true := by decide +kernel
def dc_cX11_oneWay_dX11_oneWay_158_7 := zw_16 db_cX11_oneWay_dX11_oneWay_158_7
def dX11_oneWay_158 := dc_cX11_oneWay_dX11_oneWay_158_7.1
def dX11_oneWay_160 := dc_cX11_oneWay_dX11_oneWay_158_7.2.1
def dX11_oneWay_161 := dc_cX11_oneWay_dX11_oneWay_158_7.2.2.1
def dX11_oneWay_163 := dc_cX11_oneWay_dX11_oneWay_158_7.2.2.2.1
def dX11_oneWay_164 := dc_cX11_oneWay_dX11_oneWay_158_7.2.2.2.2.1
def dX11_oneWay_166 := dc_cX11_oneWay_dX11_oneWay_158_7.2.2.2.2.2.1
def dX11_oneWay_167 := dc_cX11_oneWay_dX11_oneWay_158_7.2.2.2.2.2.2.1
def dX11_oneWay_170 := dc_cX11_oneWay_dX11_oneWay_158_7.2.2.2.2.2.2.2.1
def dX11_oneWay_173 := dc_cX11_oneWay_dX11_oneWay_158_7.2.2.2.2.2.2.2.2.1
def dX11_oneWay_176 := dc_cX11_oneWay_dX11_oneWay_158_7.2.2.2.2.2.2.2.2.2.1
def dX11_oneWay_179 := dc_cX11_oneWay_dX11_oneWay_158_7.2.2.2.2.2.2.2.2.2.2.1
def dX11_oneWay_181 := dc_cX11_oneWay_dX11_oneWay_158_7.2.2.2.2.2.2.2.2.2.2.2.1
def dX11_oneWay_182 := dc_cX11_oneWay_dX11_oneWay_158_7.2.2.2.2.2.2.2.2.2.2.2.2.1
def dX11_oneWay_184 := dc_cX11_oneWay_dX11_oneWay_158_7.2.2.2.2.2.2.2.2.2.2.2.2.2.1
def dX11_oneWay_185 := dc_cX11_oneWay_dX11_oneWay_158_7.2.2.2.2.2.2.2.2.2.2.2.2.2.2.1
def dX11_oneWay_188 := dc_cX11_oneWay_dX11_oneWay_158_7.2.2.2.2.2.2.2.2.2.2.2.2.2.2.2
set_option maxRecDepth 100000 in
theorem db_cX11_arrowsAll_dX11_arrowsAll_0_0 : zw [(0, .bipush 21, 2)] (cX11_arrowsAll.data.toList.drop 0) 0 = true := by decide +kernel
def dX11_arrowsAll_0 := zw_1 db_cX11_arrowsAll_dX11_arrowsAll_0_0
theorem dX11_arrowsAll_2 : decode cX11_arrowsAll 2 = .ok (.newarray .long, 2) := by decide +kernel
set_option maxRecDepth 100000 in
theorem db_cX11_arrowsAll_dX11_arrowsAll_4_1 : zw [(4, .astore_n 2, 1), (5, .iconst 0, 1), (6, .istore_n 3, 1), (7, .iload_n 3, 1), (8, .bipush 21, 2), (10, .if_icmp .ge 26, 3), (13, .aload_n 2, 1), (14, .iload_n 3, 1), (15, .aload_n 0, 1), (16, .getfield 19, 3), (19, .iload_n 1, 1), (20, .iconst 0, 1), (21, .iconst 0, 1), (22, .invokestatic 36, 3), (25, .iload_n 3, 1), (26, .iadd, 1)] (cX11_arrowsAll.data.toList.drop 4) 4 = true := by decide +kernel
def dc_cX11_arrowsAll_dX11_arrowsAll_4_1 := zw_16 db_cX11_arrowsAll_dX11_arrowsAll_4_1
def dX11_arrowsAll_4 := dc_cX11_arrowsAll_dX11_arrowsAll_4_1.1
def dX11_arrowsAll_5 := dc_cX11_arrowsAll_dX11_arrowsAll_4_1.2.1
def dX11_arrowsAll_6 := dc_cX11_arrowsAll_dX11_arrowsAll_4_1.2.2.1
def dX11_arrowsAll_7 := dc_cX11_arrowsAll_dX11_arrowsAll_4_1.2.2.2.1
def dX11_arrowsAll_8 := dc_cX11_arrowsAll_dX11_arrowsAll_4_1.2.2.2.2.1
def dX11_arrowsAll_10 := dc_cX11_arrowsAll_dX11_arrowsAll_4_1.2.2.2.2.2.1
def dX11_arrowsAll_13 := dc_cX11_arrowsAll_dX11_arrowsAll_4_1.2.2.2.2.2.2.1
def dX11_arrowsAll_14 := dc_cX11_arrowsAll_dX11_arrowsAll_4_1.2.2.2.2.2.2.2.1
def dX11_arrowsAll_15 := dc_cX11_arrowsAll_dX11_arrowsAll_4_1.2.2.2.2.2.2.2.2.1
def dX11_arrowsAll_16 := dc_cX11_arrowsAll_dX11_arrowsAll_4_1.2.2.2.2.2.2.2.2.2.1
def dX11_arrowsAll_19 := dc_cX11_arrowsAll_dX11_arrowsAll_4_1.2.2.2.2.2.2.2.2.2.2.1
def dX11_arrowsAll_20 := dc_cX11_arrowsAll_dX11_arrowsAll_4_1.2.2.2.2.2.2.2.2.2.2.2.1
def dX11_arrowsAll_21 := dc_cX11_arrowsAll_dX11_arrowsAll_4_1.2.2.2.2.2.2.2.2.2.2.2.2.1
def dX11_arrowsAll_22 := dc_cX11_arrowsAll_dX11_arrowsAll_4_1.2.2.2.2.2.2.2.2.2.2.2.2.2.1
def dX11_arrowsAll_25 := dc_cX11_arrowsAll_dX11_arrowsAll_4_1.2.2.2.2.2.2.2.2.2.2.2.2.2.2.1
def dX11_arrowsAll_26 := dc_cX11_arrowsAll_dX11_arrowsAll_4_1.2.2.2.2.2.2.2.2.2.2.2.2.2.2.2
set_option maxRecDepth 100000 in
theorem db_cX11_arrowsAll_dX11_arrowsAll_27_2 : zw [(27, .iaload, 1), (28, .i2l, 1), (29, .lastore, 1), (30, .iinc 3 1, 3), (33, .goto (-26), 3), (36, .aload_n 2, 1), (37, .areturn, 1)] (cX11_arrowsAll.data.toList.drop 27) 27 = true := by decide +kernel
def dc_cX11_arrowsAll_dX11_arrowsAll_27_2 := zw_7 db_cX11_arrowsAll_dX11_arrowsAll_27_2
def dX11_arrowsAll_27 := dc_cX11_arrowsAll_dX11_arrowsAll_27_2.1
def dX11_arrowsAll_28 := dc_cX11_arrowsAll_dX11_arrowsAll_27_2.2.1
def dX11_arrowsAll_29 := dc_cX11_arrowsAll_dX11_arrowsAll_27_2.2.2.1
def dX11_arrowsAll_30 := dc_cX11_arrowsAll_dX11_arrowsAll_27_2.2.2.2.1
def dX11_arrowsAll_33 := dc_cX11_arrowsAll_dX11_arrowsAll_27_2.2.2.2.2.1
def dX11_arrowsAll_36 := dc_cX11_arrowsAll_dX11_arrowsAll_27_2.2.2.2.2.2.1
def dX11_arrowsAll_37 := dc_cX11_arrowsAll_dX11_arrowsAll_27_2.2.2.2.2.2.2
set_option maxRecDepth 100000 in
theorem db_cX11_oneWay__dX11_oneWay__0_0 : zw [(0, .aload_n 0, 1), (1, .iload_n 1, 1), (2, .invokevirtual 54, 3), (5, .aload_n 0, 1), (6, .getfield 7, 3), (9, .iload_n 1, 1), (10, .iaload, 1), (11, .aload_n 0, 1), (12, .getfield 13, 3), (15, .iload_n 1, 1), (16, .iaload, 1), (17, .i2l, 1), (18, .aload_n 0, 1), (19, .getfield 16, 3), (22, .iload_n 1, 1), (23, .iaload, 1)] (cX11_oneWay_.data.toList.drop 0) 0 = true := by decide +kernel
def dc_cX11_oneWay__dX11_oneWay__0_0 := zw_16 db_cX11_oneWay__dX11_oneWay__0_0
def dX11_oneWay__0 := dc_cX11_oneWay__dX11_oneWay__0_0.1
def dX11_oneWay__1 := dc_cX11_oneWay__dX11_oneWay__0_0.2.1
def dX11_oneWay__2 := dc_cX11_oneWay__dX11_oneWay__0_0.2.2.1
def dX11_oneWay__5 := dc_cX11_oneWay__dX11_oneWay__0_0.2.2.2.1
def dX11_oneWay__6 := dc_cX11_oneWay__dX11_oneWay__0_0.2.2.2.2.1
def dX11_oneWay__9 := dc_cX11_oneWay__dX11_oneWay__0_0.2.2.2.2.2.1
def dX11_oneWay__10 := dc_cX11_oneWay__dX11_oneWay__0_0.2.2.2.2.2.2.1
def dX11_oneWay__11 := dc_cX11_oneWay__dX11_oneWay__0_0.2.2.2.2.2.2.2.1
def dX11_oneWay__12 := dc_cX11_oneWay__dX11_oneWay__0_0.2.2.2.2.2.2.2.2.1
def dX11_oneWay__15 := dc_cX11_oneWay__dX11_oneWay__0_0.2.2.2.2.2.2.2.2.2.1
def dX11_oneWay__16 := dc_cX11_oneWay__dX11_oneWay__0_0.2.2.2.2.2.2.2.2.2.2.1
def dX11_oneWay__17 := dc_cX11_oneWay__dX11_oneWay__0_0.2.2.2.2.2.2.2.2.2.2.2.1
def dX11_oneWay__18 := dc_cX11_oneWay__dX11_oneWay__0_0.2.2.2.2.2.2.2.2.2.2.2.2.1
def dX11_oneWay__19 := dc_cX11_oneWay__dX11_oneWay__0_0.2.2.2.2.2.2.2.2.2.2.2.2.2.1
def dX11_oneWay__22 := dc_cX11_oneWay__dX11_oneWay__0_0.2.2.2.2.2.2.2.2.2.2.2.2.2.2.1
def dX11_oneWay__23 := dc_cX11_oneWay__dX11_oneWay__0_0.2.2.2.2.2.2.2.2.2.2.2.2.2.2.2
set_option maxRecDepth 100000 in
theorem db_cX11_oneWay__dX11_oneWay__24_1 : zw [(24, .i2l, 1), (25, .iconst 0, 1), (26, .invokestatic 58, 3), (29, .areturn, 1)] (cX11_oneWay_.data.toList.drop 24) 24 = true := by decide +kernel
def dc_cX11_oneWay__dX11_oneWay__24_1 := zw_4 db_cX11_oneWay__dX11_oneWay__24_1
def dX11_oneWay__24 := dc_cX11_oneWay__dX11_oneWay__24_1.1
def dX11_oneWay__25 := dc_cX11_oneWay__dX11_oneWay__24_1.2.1
def dX11_oneWay__26 := dc_cX11_oneWay__dX11_oneWay__24_1.2.2.1
def dX11_oneWay__29 := dc_cX11_oneWay__dX11_oneWay__24_1.2.2.2
set_option maxRecDepth 100000 in
theorem db_cX11_isLike_dX11_isLike_0_0 : zw [(0, .aload_n 1, 1), (1, .iload_n 2, 1), (2, .iaload, 1), (3, .aload_n 1, 1), (4, .iload_n 3, 1), (5, .iaload, 1), (6, .if_icmp .ne 7, 3), (9, .iconst 1, 1), (10, .goto 4, 3), (13, .iconst 0, 1), (14, .istore 4, 2), (16, .iconst 0, 1), (17, .istore 5, 2), (19, .iload 5, 2), (21, .iconst 3, 1), (22, .if_icmp .ge 42, 3)] (cX11_isLike.data.toList.drop 0) 0 = true := by decide +kernel
def dc_cX11_isLike_dX11_isLike_0_0 := zw_16 db_cX11_isLike_dX11_isLike_0_0
def dX11_isLike_0 := dc_cX11_isLike_dX11_isLike_0_0.1
def dX11_isLike_1 := dc_cX11_isLike_dX11_isLike_0_0.2.1
def dX11_isLike_2 := dc_cX11_isLike_dX11_isLike_0_0.2.2.1
def dX11_isLike_3 := dc_cX11_isLike_dX11_isLike_0_0.2.2.2.1
def dX11_isLike_4 := dc_cX11_isLike_dX11_isLike_0_0.2.2.2.2.1
def dX11_isLike_5 := dc_cX11_isLike_dX11_isLike_0_0.2.2.2.2.2.1
def dX11_isLike_6 := dc_cX11_isLike_dX11_isLike_0_0.2.2.2.2.2.2.1
def dX11_isLike_9 := dc_cX11_isLike_dX11_isLike_0_0.2.2.2.2.2.2.2.1
def dX11_isLike_10 := dc_cX11_isLike_dX11_isLike_0_0.2.2.2.2.2.2.2.2.1
def dX11_isLike_13 := dc_cX11_isLike_dX11_isLike_0_0.2.2.2.2.2.2.2.2.2.1
def dX11_isLike_14 := dc_cX11_isLike_dX11_isLike_0_0.2.2.2.2.2.2.2.2.2.2.1
def dX11_isLike_16 := dc_cX11_isLike_dX11_isLike_0_0.2.2.2.2.2.2.2.2.2.2.2.1
def dX11_isLike_17 := dc_cX11_isLike_dX11_isLike_0_0.2.2.2.2.2.2.2.2.2.2.2.2.1
def dX11_isLike_19 := dc_cX11_isLike_dX11_isLike_0_0.2.2.2.2.2.2.2.2.2.2.2.2.2.1
def dX11_isLike_21 := dc_cX11_isLike_dX11_isLike_0_0.2.2.2.2.2.2.2.2.2.2.2.2.2.2.1
def dX11_isLike_22 := dc_cX11_isLike_dX11_isLike_0_0.2.2.2.2.2.2.2.2.2.2.2.2.2.2.2
set_option maxRecDepth 100000 in
theorem db_cX11_isLike_dX11_isLike_25_1 : zw [(25, .iload 4, 2), (27, .aload_n 1, 1), (28, .aload_n 0, 1), (29, .iconst 4, 1), (30, .iload_n 2, 1), (31, .imul, 1), (32, .iload 5, 2), (34, .iadd, 1), (35, .iaload, 1), (36, .iaload, 1), (37, .aload_n 1, 1), (38, .aload_n 0, 1), (39, .iconst 4, 1), (40, .iload_n 3, 1), (41, .imul, 1), (42, .iload 5, 2)] (cX11_isLike.data.toList.drop 25) 25 = true := by decide +kernel
def dc_cX11_isLike_dX11_isLike_25_1 := zw_16 db_cX11_isLike_dX11_isLike_25_1
def dX11_isLike_25 := dc_cX11_isLike_dX11_isLike_25_1.1
def dX11_isLike_27 := dc_cX11_isLike_dX11_isLike_25_1.2.1
def dX11_isLike_28 := dc_cX11_isLike_dX11_isLike_25_1.2.2.1
def dX11_isLike_29 := dc_cX11_isLike_dX11_isLike_25_1.2.2.2.1
def dX11_isLike_30 := dc_cX11_isLike_dX11_isLike_25_1.2.2.2.2.1
def dX11_isLike_31 := dc_cX11_isLike_dX11_isLike_25_1.2.2.2.2.2.1
def dX11_isLike_32 := dc_cX11_isLike_dX11_isLike_25_1.2.2.2.2.2.2.1
def dX11_isLike_34 := dc_cX11_isLike_dX11_isLike_25_1.2.2.2.2.2.2.2.1
def dX11_isLike_35 := dc_cX11_isLike_dX11_isLike_25_1.2.2.2.2.2.2.2.2.1
def dX11_isLike_36 := dc_cX11_isLike_dX11_isLike_25_1.2.2.2.2.2.2.2.2.2.1
def dX11_isLike_37 := dc_cX11_isLike_dX11_isLike_25_1.2.2.2.2.2.2.2.2.2.2.1
def dX11_isLike_38 := dc_cX11_isLike_dX11_isLike_25_1.2.2.2.2.2.2.2.2.2.2.2.1
def dX11_isLike_39 := dc_cX11_isLike_dX11_isLike_25_1.2.2.2.2.2.2.2.2.2.2.2.2.1
def dX11_isLike_40 := dc_cX11_isLike_dX11_isLike_25_1.2.2.2.2.2.2.2.2.2.2.2.2.2.1
def dX11_isLike_41 := dc_cX11_isLike_dX11_isLike_25_1.2.2.2.2.2.2.2.2.2.2.2.2.2.2.1
def dX11_isLike_42 := dc_cX11_isLike_dX11_isLike_25_1.2.2.2.2.2.2.2.2.2.2.2.2.2.2.2
set_option maxRecDepth 100000 in
theorem db_cX11_isLike_dX11_isLike_44_2 : zw [(44, .iadd, 1), (45, .iaload, 1), (46, .iaload, 1), (47, .if_icmp .ne 7, 3), (50, .iconst 1, 1), (51, .goto 4, 3), (54, .iconst 0, 1), (55, .iand, 1), (56, .istore 4, 2), (58, .iinc 5 1, 3), (61, .goto (-42), 3), (64, .iload 4, 2), (66, .ireturn, 1)] (cX11_isLike.data.toList.drop 44) 44 = true := by decide +kernel
def dc_cX11_isLike_dX11_isLike_44_2 := zw_13 db_cX11_isLike_dX11_isLike_44_2
def dX11_isLike_44 := dc_cX11_isLike_dX11_isLike_44_2.1
def dX11_isLike_45 := dc_cX11_isLike_dX11_isLike_44_2.2.1
def dX11_isLike_46 := dc_cX11_isLike_dX11_isLike_44_2.2.2.1
def dX11_isLike_47 := dc_cX11_isLike_dX11_isLike_44_2.2.2.2.1
def dX11_isLike_50 := dc_cX11_isLike_dX11_isLike_44_2.2.2.2.2.1
def dX11_isLike_51 := dc_cX11_isLike_dX11_isLike_44_2.2.2.2.2.2.1
def dX11_isLike_54 := dc_cX11_isLike_dX11_isLike_44_2.2.2.2.2.2.2.1
def dX11_isLike_55 := dc_cX11_isLike_dX11_isLike_44_2.2.2.2.2.2.2.2.1
def dX11_isLike_56 := dc_cX11_isLike_dX11_isLike_44_2.2.2.2.2.2.2.2.2.1
def dX11_isLike_58 := dc_cX11_isLike_dX11_isLike_44_2.2.2.2.2.2.2.2.2.2.1
def dX11_isLike_61 := dc_cX11_isLike_dX11_isLike_44_2.2.2.2.2.2.2.2.2.2.2.1
def dX11_isLike_64 := dc_cX11_isLike_dX11_isLike_44_2.2.2.2.2.2.2.2.2.2.2.2.1
def dX11_isLike_66 := dc_cX11_isLike_dX11_isLike_44_2.2.2.2.2.2.2.2.2.2.2.2.2
set_option maxRecDepth 100000 in
theorem db_cX11_alike_dX11_alike_0_0 : zw [(0, .aload_n 0, 1), (1, .arraylength, 1), (2, .iconst 4, 1), (3, .idiv, 1), (4, .istore_n 1, 1), (5, .iload_n 1, 1)] (cX11_alike.data.toList.drop 0) 0 = true := by decide +kernel
def dc_cX11_alike_dX11_alike_0_0 := zw_6 db_cX11_alike_dX11_alike_0_0
def dX11_alike_0 := dc_cX11_alike_dX11_alike_0_0.1
def dX11_alike_1 := dc_cX11_alike_dX11_alike_0_0.2.1
def dX11_alike_2 := dc_cX11_alike_dX11_alike_0_0.2.2.1
def dX11_alike_3 := dc_cX11_alike_dX11_alike_0_0.2.2.2.1
def dX11_alike_4 := dc_cX11_alike_dX11_alike_0_0.2.2.2.2.1
def dX11_alike_5 := dc_cX11_alike_dX11_alike_0_0.2.2.2.2.2
theorem dX11_alike_6 : decode cX11_alike 6 = .ok (.newarray .int, 2) := by decide +kernel
set_option maxRecDepth 100000 in
theorem db_cX11_alike_dX11_alike_8_1 : zw [(8, .astore_n 2, 1), (9, .iconst 0, 1), (10, .istore_n 3, 1), (11, .iload_n 3, 1), (12, .iload_n 1, 1), (13, .if_icmp .ge 19, 3), (16, .aload_n 2, 1), (17, .iload_n 3, 1), (18, .aload_n 0, 1), (19, .iconst 4, 1), (20, .iload_n 3, 1), (21, .imul, 1), (22, .iconst 3, 1), (23, .iadd, 1), (24, .iaload, 1), (25, .iastore, 1)] (cX11_alike.data.toList.drop 8) 8 = true := by decide +kernel
def dc_cX11_alike_dX11_alike_8_1 := zw_16 db_cX11_alike_dX11_alike_8_1
def dX11_alike_8 := dc_cX11_alike_dX11_alike_8_1.1
def dX11_alike_9 := dc_cX11_alike_dX11_alike_8_1.2.1
def dX11_alike_10 := dc_cX11_alike_dX11_alike_8_1.2.2.1
def dX11_alike_11 := dc_cX11_alike_dX11_alike_8_1.2.2.2.1
def dX11_alike_12 := dc_cX11_alike_dX11_alike_8_1.2.2.2.2.1
def dX11_alike_13 := dc_cX11_alike_dX11_alike_8_1.2.2.2.2.2.1
def dX11_alike_16 := dc_cX11_alike_dX11_alike_8_1.2.2.2.2.2.2.1
def dX11_alike_17 := dc_cX11_alike_dX11_alike_8_1.2.2.2.2.2.2.2.1
def dX11_alike_18 := dc_cX11_alike_dX11_alike_8_1.2.2.2.2.2.2.2.2.1
def dX11_alike_19 := dc_cX11_alike_dX11_alike_8_1.2.2.2.2.2.2.2.2.2.1
def dX11_alike_20 := dc_cX11_alike_dX11_alike_8_1.2.2.2.2.2.2.2.2.2.2.1
def dX11_alike_21 := dc_cX11_alike_dX11_alike_8_1.2.2.2.2.2.2.2.2.2.2.2.1
def dX11_alike_22 := dc_cX11_alike_dX11_alike_8_1.2.2.2.2.2.2.2.2.2.2.2.2.1
def dX11_alike_23 := dc_cX11_alike_dX11_alike_8_1.2.2.2.2.2.2.2.2.2.2.2.2.2.1
def dX11_alike_24 := dc_cX11_alike_dX11_alike_8_1.2.2.2.2.2.2.2.2.2.2.2.2.2.2.1
def dX11_alike_25 := dc_cX11_alike_dX11_alike_8_1.2.2.2.2.2.2.2.2.2.2.2.2.2.2.2
set_option maxRecDepth 100000 in
theorem db_cX11_alike_dX11_alike_26_2 : zw [(26, .iinc 3 1, 3), (29, .goto (-18), 3), (32, .iconst 0, 1), (33, .istore_n 3, 1), (34, .iload_n 3, 1), (35, .iload_n 1, 1), (36, .if_icmp .ge 60, 3), (39, .iload_n 1, 1)] (cX11_alike.data.toList.drop 26) 26 = true := by decide +kernel
def dc_cX11_alike_dX11_alike_26_2 := zw_8 db_cX11_alike_dX11_alike_26_2
def dX11_alike_26 := dc_cX11_alike_dX11_alike_26_2.1
def dX11_alike_29 := dc_cX11_alike_dX11_alike_26_2.2.1
def dX11_alike_32 := dc_cX11_alike_dX11_alike_26_2.2.2.1
def dX11_alike_33 := dc_cX11_alike_dX11_alike_26_2.2.2.2.1
def dX11_alike_34 := dc_cX11_alike_dX11_alike_26_2.2.2.2.2.1
def dX11_alike_35 := dc_cX11_alike_dX11_alike_26_2.2.2.2.2.2.1
def dX11_alike_36 := dc_cX11_alike_dX11_alike_26_2.2.2.2.2.2.2.1
def dX11_alike_39 := dc_cX11_alike_dX11_alike_26_2.2.2.2.2.2.2.2
theorem dX11_alike_40 : decode cX11_alike 40 = .ok (.newarray .int, 2) := by decide +kernel
set_option maxRecDepth 100000 in
theorem db_cX11_alike_dX11_alike_42_3 : zw [(42, .astore 4, 2), (44, .iconst 0, 1), (45, .istore 5, 2), (47, .iload 5, 2), (49, .iload_n 1, 1), (50, .if_icmp .ge 37, 3), (53, .iconst 0, 1), (54, .istore 6, 2), (56, .aload_n 0, 1), (57, .aload_n 2, 1), (58, .iload 6, 2), (60, .iload 5, 2), (62, .invokestatic 62, 3), (65, .ifCond .ne 9, 3), (68, .iinc 6 1, 3), (71, .goto (-15), 3)] (cX11_alike.data.toList.drop 42) 42 = true := by decide +kernel
def dc_cX11_alike_dX11_alike_42_3 := zw_16 db_cX11_alike_dX11_alike_42_3
def dX11_alike_42 := dc_cX11_alike_dX11_alike_42_3.1
def dX11_alike_44 := dc_cX11_alike_dX11_alike_42_3.2.1
def dX11_alike_45 := dc_cX11_alike_dX11_alike_42_3.2.2.1
def dX11_alike_47 := dc_cX11_alike_dX11_alike_42_3.2.2.2.1
def dX11_alike_49 := dc_cX11_alike_dX11_alike_42_3.2.2.2.2.1
def dX11_alike_50 := dc_cX11_alike_dX11_alike_42_3.2.2.2.2.2.1
def dX11_alike_53 := dc_cX11_alike_dX11_alike_42_3.2.2.2.2.2.2.1
def dX11_alike_54 := dc_cX11_alike_dX11_alike_42_3.2.2.2.2.2.2.2.1
def dX11_alike_56 := dc_cX11_alike_dX11_alike_42_3.2.2.2.2.2.2.2.2.1
def dX11_alike_57 := dc_cX11_alike_dX11_alike_42_3.2.2.2.2.2.2.2.2.2.1
def dX11_alike_58 := dc_cX11_alike_dX11_alike_42_3.2.2.2.2.2.2.2.2.2.2.1
def dX11_alike_60 := dc_cX11_alike_dX11_alike_42_3.2.2.2.2.2.2.2.2.2.2.2.1
def dX11_alike_62 := dc_cX11_alike_dX11_alike_42_3.2.2.2.2.2.2.2.2.2.2.2.2.1
def dX11_alike_65 := dc_cX11_alike_dX11_alike_42_3.2.2.2.2.2.2.2.2.2.2.2.2.2.1
def dX11_alike_68 := dc_cX11_alike_dX11_alike_42_3.2.2.2.2.2.2.2.2.2.2.2.2.2.2.1
def dX11_alike_71 := dc_cX11_alike_dX11_alike_42_3.2.2.2.2.2.2.2.2.2.2.2.2.2.2.2
set_option maxRecDepth 100000 in
theorem db_cX11_alike_dX11_alike_74_4 : zw [(74, .aload 4, 2), (76, .iload 5, 2), (78, .iload 6, 2), (80, .iastore, 1), (81, .iinc 5 1, 3), (84, .goto (-37), 3), (87, .aload 4, 2), (89, .astore_n 2, 1), (90, .iinc 3 1, 3), (93, .goto (-59), 3), (96, .aload_n 2, 1), (97, .areturn, 1)] (cX11_alike.data.toList.drop 74) 74 = true := by decide +kernel
def dc_cX11_alike_dX11_alike_74_4 := zw_12 db_cX11_alike_dX11_alike_74_4
def dX11_alike_74 := dc_cX11_alike_dX11_alike_74_4.1
def dX11_alike_76 := dc_cX11_alike_dX11_alike_74_4.2.1
def dX11_alike_78 := dc_cX11_alike_dX11_alike_74_4.2.2.1
def dX11_alike_80 := dc_cX11_alike_dX11_alike_74_4.2.2.2.1
def dX11_alike_81 := dc_cX11_alike_dX11_alike_74_4.2.2.2.2.1
def dX11_alike_84 := dc_cX11_alike_dX11_alike_74_4.2.2.2.2.2.1
def dX11_alike_87 := dc_cX11_alike_dX11_alike_74_4.2.2.2.2.2.2.1
def dX11_alike_89 := dc_cX11_alike_dX11_alike_74_4.2.2.2.2.2.2.2.1
def dX11_alike_90 := dc_cX11_alike_dX11_alike_74_4.2.2.2.2.2.2.2.2.1
def dX11_alike_93 := dc_cX11_alike_dX11_alike_74_4.2.2.2.2.2.2.2.2.2.1
def dX11_alike_96 := dc_cX11_alike_dX11_alike_74_4.2.2.2.2.2.2.2.2.2.2.1
def dX11_alike_97 := dc_cX11_alike_dX11_alike_74_4.2.2.2.2.2.2.2.2.2.2.2
set_option maxRecDepth 100000 in
theorem db_cX11_least_dX11_least_0_0 : zw [(0, .aload_n 0, 1), (1, .ifnonnull 5, 3), (4, .aconst_null, 1), (5, .areturn, 1), (6, .aload_n 0, 1), (7, .invokestatic 66, 3), (10, .astore_n 1, 1), (11, .aload_n 1, 1), (12, .arraylength, 1)] (cX11_least.data.toList.drop 0) 0 = true := by decide +kernel
def dc_cX11_least_dX11_least_0_0 := zw_9 db_cX11_least_dX11_least_0_0
def dX11_least_0 := dc_cX11_least_dX11_least_0_0.1
def dX11_least_1 := dc_cX11_least_dX11_least_0_0.2.1
def dX11_least_4 := dc_cX11_least_dX11_least_0_0.2.2.1
def dX11_least_5 := dc_cX11_least_dX11_least_0_0.2.2.2.1
def dX11_least_6 := dc_cX11_least_dX11_least_0_0.2.2.2.2.1
def dX11_least_7 := dc_cX11_least_dX11_least_0_0.2.2.2.2.2.1
def dX11_least_10 := dc_cX11_least_dX11_least_0_0.2.2.2.2.2.2.1
def dX11_least_11 := dc_cX11_least_dX11_least_0_0.2.2.2.2.2.2.2.1
def dX11_least_12 := dc_cX11_least_dX11_least_0_0.2.2.2.2.2.2.2.2
theorem dX11_least_13 : decode cX11_least 13 = .ok (.newarray .int, 2) := by decide +kernel
set_option maxRecDepth 100000 in
theorem db_cX11_least_dX11_least_15_1 : zw [(15, .astore_n 2, 1), (16, .aload_n 0, 1), (17, .arraylength, 1)] (cX11_least.data.toList.drop 15) 15 = true := by decide +kernel
def dc_cX11_least_dX11_least_15_1 := zw_3 db_cX11_least_dX11_least_15_1
def dX11_least_15 := dc_cX11_least_dX11_least_15_1.1
def dX11_least_16 := dc_cX11_least_dX11_least_15_1.2.1
def dX11_least_17 := dc_cX11_least_dX11_least_15_1.2.2
theorem dX11_least_18 : decode cX11_least 18 = .ok (.newarray .int, 2) := by decide +kernel
set_option maxRecDepth 100000 in
theorem db_cX11_least_dX11_least_20_2 : zw [(20, .astore_n 3, 1), (21, .iconst 1, 1), (22, .istore 4, 2), (24, .iconst 0, 1), (25, .istore 5, 2), (27, .iload 5, 2), (29, .iload 4, 2), (31, .if_icmp .ge 111, 3), (34, .aload_n 3, 1), (35, .iconst 4, 1), (36, .iload 5, 2), (38, .imul, 1), (39, .iconst 3, 1), (40, .iadd, 1), (41, .aload_n 0, 1), (42, .iconst 4, 1)] (cX11_least.data.toList.drop 20) 20 = true := by decide +kernel
def dc_cX11_least_dX11_least_20_2 := zw_16 db_cX11_least_dX11_least_20_2
def dX11_least_20 := dc_cX11_least_dX11_least_20_2.1
def dX11_least_21 := dc_cX11_least_dX11_least_20_2.2.1
def dX11_least_22 := dc_cX11_least_dX11_least_20_2.2.2.1
def dX11_least_24 := dc_cX11_least_dX11_least_20_2.2.2.2.1
def dX11_least_25 := dc_cX11_least_dX11_least_20_2.2.2.2.2.1
def dX11_least_27 := dc_cX11_least_dX11_least_20_2.2.2.2.2.2.1
def dX11_least_29 := dc_cX11_least_dX11_least_20_2.2.2.2.2.2.2.1
def dX11_least_31 := dc_cX11_least_dX11_least_20_2.2.2.2.2.2.2.2.1
def dX11_least_34 := dc_cX11_least_dX11_least_20_2.2.2.2.2.2.2.2.2.1
def dX11_least_35 := dc_cX11_least_dX11_least_20_2.2.2.2.2.2.2.2.2.2.1
def dX11_least_36 := dc_cX11_least_dX11_least_20_2.2.2.2.2.2.2.2.2.2.2.1
def dX11_least_38 := dc_cX11_least_dX11_least_20_2.2.2.2.2.2.2.2.2.2.2.2.1
def dX11_least_39 := dc_cX11_least_dX11_least_20_2.2.2.2.2.2.2.2.2.2.2.2.2.1
def dX11_least_40 := dc_cX11_least_dX11_least_20_2.2.2.2.2.2.2.2.2.2.2.2.2.2.1
def dX11_least_41 := dc_cX11_least_dX11_least_20_2.2.2.2.2.2.2.2.2.2.2.2.2.2.2.1
def dX11_least_42 := dc_cX11_least_dX11_least_20_2.2.2.2.2.2.2.2.2.2.2.2.2.2.2.2
set_option maxRecDepth 100000 in
theorem db_cX11_least_dX11_least_43_3 : zw [(43, .aload_n 2, 1), (44, .iload 5, 2), (46, .iaload, 1), (47, .imul, 1), (48, .iconst 3, 1), (49, .iadd, 1), (50, .iaload, 1), (51, .iastore, 1), (52, .iconst 0, 1), (53, .istore 6, 2), (55, .iload 6, 2), (57, .iconst 3, 1), (58, .if_icmp .ge 78, 3), (61, .aload_n 0, 1), (62, .iconst 4, 1), (63, .aload_n 2, 1)] (cX11_least.data.toList.drop 43) 43 = true := by decide +kernel
def dc_cX11_least_dX11_least_43_3 := zw_16 db_cX11_least_dX11_least_43_3
def dX11_least_43 := dc_cX11_least_dX11_least_43_3.1
def dX11_least_44 := dc_cX11_least_dX11_least_43_3.2.1
def dX11_least_46 := dc_cX11_least_dX11_least_43_3.2.2.1
def dX11_least_47 := dc_cX11_least_dX11_least_43_3.2.2.2.1
def dX11_least_48 := dc_cX11_least_dX11_least_43_3.2.2.2.2.1
def dX11_least_49 := dc_cX11_least_dX11_least_43_3.2.2.2.2.2.1
def dX11_least_50 := dc_cX11_least_dX11_least_43_3.2.2.2.2.2.2.1
def dX11_least_51 := dc_cX11_least_dX11_least_43_3.2.2.2.2.2.2.2.1
def dX11_least_52 := dc_cX11_least_dX11_least_43_3.2.2.2.2.2.2.2.2.1
def dX11_least_53 := dc_cX11_least_dX11_least_43_3.2.2.2.2.2.2.2.2.2.1
def dX11_least_55 := dc_cX11_least_dX11_least_43_3.2.2.2.2.2.2.2.2.2.2.1
def dX11_least_57 := dc_cX11_least_dX11_least_43_3.2.2.2.2.2.2.2.2.2.2.2.1
def dX11_least_58 := dc_cX11_least_dX11_least_43_3.2.2.2.2.2.2.2.2.2.2.2.2.1
def dX11_least_61 := dc_cX11_least_dX11_least_43_3.2.2.2.2.2.2.2.2.2.2.2.2.2.1
def dX11_least_62 := dc_cX11_least_dX11_least_43_3.2.2.2.2.2.2.2.2.2.2.2.2.2.2.1
def dX11_least_63 := dc_cX11_least_dX11_least_43_3.2.2.2.2.2.2.2.2.2.2.2.2.2.2.2
set_option maxRecDepth 100000 in
theorem db_cX11_least_dX11_least_64_4 : zw [(64, .iload 5, 2), (66, .iaload, 1), (67, .imul, 1), (68, .iload 6, 2), (70, .iadd, 1), (71, .iaload, 1), (72, .istore 7, 2), (74, .iconst 0, 1), (75, .istore 8, 2), (77, .iload 8, 2), (79, .iload 4, 2), (81, .if_icmp .ge 22, 3), (84, .aload_n 1, 1), (85, .aload_n 2, 1), (86, .iload 8, 2), (88, .iaload, 1)] (cX11_least.data.toList.drop 64) 64 = true := by decide +kernel
def dc_cX11_least_dX11_least_64_4 := zw_16 db_cX11_least_dX11_least_64_4
def dX11_least_64 := dc_cX11_least_dX11_least_64_4.1
def dX11_least_66 := dc_cX11_least_dX11_least_64_4.2.1
def dX11_least_67 := dc_cX11_least_dX11_least_64_4.2.2.1
def dX11_least_68 := dc_cX11_least_dX11_least_64_4.2.2.2.1
def dX11_least_70 := dc_cX11_least_dX11_least_64_4.2.2.2.2.1
def dX11_least_71 := dc_cX11_least_dX11_least_64_4.2.2.2.2.2.1
def dX11_least_72 := dc_cX11_least_dX11_least_64_4.2.2.2.2.2.2.1
def dX11_least_74 := dc_cX11_least_dX11_least_64_4.2.2.2.2.2.2.2.1
def dX11_least_75 := dc_cX11_least_dX11_least_64_4.2.2.2.2.2.2.2.2.1
def dX11_least_77 := dc_cX11_least_dX11_least_64_4.2.2.2.2.2.2.2.2.2.1
def dX11_least_79 := dc_cX11_least_dX11_least_64_4.2.2.2.2.2.2.2.2.2.2.1
def dX11_least_81 := dc_cX11_least_dX11_least_64_4.2.2.2.2.2.2.2.2.2.2.2.1
def dX11_least_84 := dc_cX11_least_dX11_least_64_4.2.2.2.2.2.2.2.2.2.2.2.2.1
def dX11_least_85 := dc_cX11_least_dX11_least_64_4.2.2.2.2.2.2.2.2.2.2.2.2.2.1
def dX11_least_86 := dc_cX11_least_dX11_least_64_4.2.2.2.2.2.2.2.2.2.2.2.2.2.2.1
def dX11_least_88 := dc_cX11_least_dX11_least_64_4.2.2.2.2.2.2.2.2.2.2.2.2.2.2.2
set_option maxRecDepth 100000 in
theorem db_cX11_least_dX11_least_89_5 : zw [(89, .iaload, 1), (90, .aload_n 1, 1), (91, .iload 7, 2), (93, .iaload, 1), (94, .if_icmp .eq 9, 3), (97, .iinc 8 1, 3), (100, .goto (-23), 3), (103, .iload 8, 2), (105, .iload 4, 2), (107, .if_icmp .ne 12, 3), (110, .aload_n 2, 1), (111, .iload 4, 2), (113, .iinc 4 1, 3), (116, .iload 7, 2), (118, .iastore, 1), (119, .aload_n 3, 1)] (cX11_least.data.toList.drop 89) 89 = true := by decide +kernel
def dc_cX11_least_dX11_least_89_5 := zw_16 db_cX11_least_dX11_least_89_5
def dX11_least_89 := dc_cX11_least_dX11_least_89_5.1
def dX11_least_90 := dc_cX11_least_dX11_least_89_5.2.1
def dX11_least_91 := dc_cX11_least_dX11_least_89_5.2.2.1
def dX11_least_93 := dc_cX11_least_dX11_least_89_5.2.2.2.1
def dX11_least_94 := dc_cX11_least_dX11_least_89_5.2.2.2.2.1
def dX11_least_97 := dc_cX11_least_dX11_least_89_5.2.2.2.2.2.1
def dX11_least_100 := dc_cX11_least_dX11_least_89_5.2.2.2.2.2.2.1
def dX11_least_103 := dc_cX11_least_dX11_least_89_5.2.2.2.2.2.2.2.1
def dX11_least_105 := dc_cX11_least_dX11_least_89_5.2.2.2.2.2.2.2.2.1
def dX11_least_107 := dc_cX11_least_dX11_least_89_5.2.2.2.2.2.2.2.2.2.1
def dX11_least_110 := dc_cX11_least_dX11_least_89_5.2.2.2.2.2.2.2.2.2.2.1
def dX11_least_111 := dc_cX11_least_dX11_least_89_5.2.2.2.2.2.2.2.2.2.2.2.1
def dX11_least_113 := dc_cX11_least_dX11_least_89_5.2.2.2.2.2.2.2.2.2.2.2.2.1
def dX11_least_116 := dc_cX11_least_dX11_least_89_5.2.2.2.2.2.2.2.2.2.2.2.2.2.1
def dX11_least_118 := dc_cX11_least_dX11_least_89_5.2.2.2.2.2.2.2.2.2.2.2.2.2.2.1
def dX11_least_119 := dc_cX11_least_dX11_least_89_5.2.2.2.2.2.2.2.2.2.2.2.2.2.2.2
set_option maxRecDepth 100000 in
theorem db_cX11_least_dX11_least_120_6 : zw [(120, .iconst 4, 1), (121, .iload 5, 2), (123, .imul, 1), (124, .iload 6, 2), (126, .iadd, 1), (127, .iload 8, 2), (129, .iastore, 1), (130, .iinc 6 1, 3), (133, .goto (-78), 3), (136, .iinc 5 1, 3), (139, .goto (-112), 3), (142, .aload_n 3, 1), (143, .iconst 4, 1), (144, .iload 4, 2), (146, .imul, 1), (147, .invokestatic 50, 3)] (cX11_least.data.toList.drop 120) 120 = true := by decide +kernel
def dc_cX11_least_dX11_least_120_6 := zw_16 db_cX11_least_dX11_least_120_6
def dX11_least_120 := dc_cX11_least_dX11_least_120_6.1
def dX11_least_121 := dc_cX11_least_dX11_least_120_6.2.1
def dX11_least_123 := dc_cX11_least_dX11_least_120_6.2.2.1
def dX11_least_124 := dc_cX11_least_dX11_least_120_6.2.2.2.1
def dX11_least_126 := dc_cX11_least_dX11_least_120_6.2.2.2.2.1
def dX11_least_127 := dc_cX11_least_dX11_least_120_6.2.2.2.2.2.1
def dX11_least_129 := dc_cX11_least_dX11_least_120_6.2.2.2.2.2.2.1
def dX11_least_130 := dc_cX11_least_dX11_least_120_6.2.2.2.2.2.2.2.1
def dX11_least_133 := dc_cX11_least_dX11_least_120_6.2.2.2.2.2.2.2.2.1
def dX11_least_136 := dc_cX11_least_dX11_least_120_6.2.2.2.2.2.2.2.2.2.1
def dX11_least_139 := dc_cX11_least_dX11_least_120_6.2.2.2.2.2.2.2.2.2.2.1
def dX11_least_142 := dc_cX11_least_dX11_least_120_6.2.2.2.2.2.2.2.2.2.2.2.1
def dX11_least_143 := dc_cX11_least_dX11_least_120_6.2.2.2.2.2.2.2.2.2.2.2.2.1
def dX11_least_144 := dc_cX11_least_dX11_least_120_6.2.2.2.2.2.2.2.2.2.2.2.2.2.1
def dX11_least_146 := dc_cX11_least_dX11_least_120_6.2.2.2.2.2.2.2.2.2.2.2.2.2.2.1
def dX11_least_147 := dc_cX11_least_dX11_least_120_6.2.2.2.2.2.2.2.2.2.2.2.2.2.2.2
set_option maxRecDepth 100000 in
theorem db_cX11_least_dX11_least_150_7 : zw [(150, .areturn, 1)] (cX11_least.data.toList.drop 150) 150 = true := by decide +kernel
def dX11_least_150 := zw_1 db_cX11_least_dX11_least_150_7
set_option maxRecDepth 100000 in
theorem db_cX11_turnedTwice_dX11_turnedTwice_0_0 : zw [(0, .aload_n 0, 1), (1, .iload_n 1, 1), (2, .invokevirtual 54, 3), (5, .aload_n 0, 1), (6, .getfield 7, 3), (9, .iload_n 1, 1), (10, .iaload, 1), (11, .aload_n 0, 1), (12, .getfield 13, 3), (15, .iload_n 1, 1), (16, .iaload, 1), (17, .i2l, 1), (18, .aload_n 0, 1), (19, .getfield 16, 3), (22, .iload_n 1, 1), (23, .iaload, 1)] (cX11_turnedTwice.data.toList.drop 0) 0 = true := by decide +kernel
def dc_cX11_turnedTwice_dX11_turnedTwice_0_0 := zw_16 db_cX11_turnedTwice_dX11_turnedTwice_0_0
def dX11_turnedTwice_0 := dc_cX11_turnedTwice_dX11_turnedTwice_0_0.1
def dX11_turnedTwice_1 := dc_cX11_turnedTwice_dX11_turnedTwice_0_0.2.1
def dX11_turnedTwice_2 := dc_cX11_turnedTwice_dX11_turnedTwice_0_0.2.2.1
def dX11_turnedTwice_5 := dc_cX11_turnedTwice_dX11_turnedTwice_0_0.2.2.2.1
def dX11_turnedTwice_6 := dc_cX11_turnedTwice_dX11_turnedTwice_0_0.2.2.2.2.1
def dX11_turnedTwice_9 := dc_cX11_turnedTwice_dX11_turnedTwice_0_0.2.2.2.2.2.1
def dX11_turnedTwice_10 := dc_cX11_turnedTwice_dX11_turnedTwice_0_0.2.2.2.2.2.2.1
def dX11_turnedTwice_11 := dc_cX11_turnedTwice_dX11_turnedTwice_0_0.2.2.2.2.2.2.2.1
def dX11_turnedTwice_12 := dc_cX11_turnedTwice_dX11_turnedTwice_0_0.2.2.2.2.2.2.2.2.1
def dX11_turnedTwice_15 := dc_cX11_turnedTwice_dX11_turnedTwice_0_0.2.2.2.2.2.2.2.2.2.1
def dX11_turnedTwice_16 := dc_cX11_turnedTwice_dX11_turnedTwice_0_0.2.2.2.2.2.2.2.2.2.2.1
def dX11_turnedTwice_17 := dc_cX11_turnedTwice_dX11_turnedTwice_0_0.2.2.2.2.2.2.2.2.2.2.2.1
def dX11_turnedTwice_18 := dc_cX11_turnedTwice_dX11_turnedTwice_0_0.2.2.2.2.2.2.2.2.2.2.2.2.1
def dX11_turnedTwice_19 := dc_cX11_turnedTwice_dX11_turnedTwice_0_0.2.2.2.2.2.2.2.2.2.2.2.2.2.1
def dX11_turnedTwice_22 := dc_cX11_turnedTwice_dX11_turnedTwice_0_0.2.2.2.2.2.2.2.2.2.2.2.2.2.2.1
def dX11_turnedTwice_23 := dc_cX11_turnedTwice_dX11_turnedTwice_0_0.2.2.2.2.2.2.2.2.2.2.2.2.2.2.2
set_option maxRecDepth 100000 in
theorem db_cX11_turnedTwice_dX11_turnedTwice_24_1 : zw [(24, .i2l, 1), (25, .iconst 1, 1), (26, .invokestatic 58, 3), (29, .astore_n 2, 1), (30, .aload_n 2, 1), (31, .ifnonnull 5, 3), (34, .aconst_null, 1), (35, .areturn, 1), (36, .aload_n 2, 1), (37, .arraylength, 1), (38, .iconst 4, 1), (39, .idiv, 1), (40, .istore_n 3, 1), (41, .iconst 3, 1), (42, .iload_n 3, 1), (43, .imul, 1)] (cX11_turnedTwice.data.toList.drop 24) 24 = true := by decide +kernel
def dc_cX11_turnedTwice_dX11_turnedTwice_24_1 := zw_16 db_cX11_turnedTwice_dX11_turnedTwice_24_1
def dX11_turnedTwice_24 := dc_cX11_turnedTwice_dX11_turnedTwice_24_1.1
def dX11_turnedTwice_25 := dc_cX11_turnedTwice_dX11_turnedTwice_24_1.2.1
def dX11_turnedTwice_26 := dc_cX11_turnedTwice_dX11_turnedTwice_24_1.2.2.1
def dX11_turnedTwice_29 := dc_cX11_turnedTwice_dX11_turnedTwice_24_1.2.2.2.1
def dX11_turnedTwice_30 := dc_cX11_turnedTwice_dX11_turnedTwice_24_1.2.2.2.2.1
def dX11_turnedTwice_31 := dc_cX11_turnedTwice_dX11_turnedTwice_24_1.2.2.2.2.2.1
def dX11_turnedTwice_34 := dc_cX11_turnedTwice_dX11_turnedTwice_24_1.2.2.2.2.2.2.1
def dX11_turnedTwice_35 := dc_cX11_turnedTwice_dX11_turnedTwice_24_1.2.2.2.2.2.2.2.1
def dX11_turnedTwice_36 := dc_cX11_turnedTwice_dX11_turnedTwice_24_1.2.2.2.2.2.2.2.2.1
def dX11_turnedTwice_37 := dc_cX11_turnedTwice_dX11_turnedTwice_24_1.2.2.2.2.2.2.2.2.2.1
def dX11_turnedTwice_38 := dc_cX11_turnedTwice_dX11_turnedTwice_24_1.2.2.2.2.2.2.2.2.2.2.1
def dX11_turnedTwice_39 := dc_cX11_turnedTwice_dX11_turnedTwice_24_1.2.2.2.2.2.2.2.2.2.2.2.1
def dX11_turnedTwice_40 := dc_cX11_turnedTwice_dX11_turnedTwice_24_1.2.2.2.2.2.2.2.2.2.2.2.2.1
def dX11_turnedTwice_41 := dc_cX11_turnedTwice_dX11_turnedTwice_24_1.2.2.2.2.2.2.2.2.2.2.2.2.2.1
def dX11_turnedTwice_42 := dc_cX11_turnedTwice_dX11_turnedTwice_24_1.2.2.2.2.2.2.2.2.2.2.2.2.2.2.1
def dX11_turnedTwice_43 := dc_cX11_turnedTwice_dX11_turnedTwice_24_1.2.2.2.2.2.2.2.2.2.2.2.2.2.2.2
theorem dX11_turnedTwice_44 : decode cX11_turnedTwice 44 = .ok (.newarray .long, 2) := by decide +kernel
set_option maxRecDepth 100000 in
theorem db_cX11_turnedTwice_dX11_turnedTwice_46_2 : zw [(46, .astore 4, 2), (48, .lconst 0, 1), (49, .lstore 5, 2), (51, .iconst 0, 1), (52, .istore 7, 2), (54, .iload 7, 2), (56, .iload_n 3, 1), (57, .if_icmp .ge 66, 3), (60, .iconst 0, 1), (61, .istore 8, 2), (63, .iload 8, 2), (65, .iconst 3, 1), (66, .if_icmp .ge 30, 3), (69, .aload 4, 2), (71, .iconst 3, 1), (72, .iload 7, 2)] (cX11_turnedTwice.data.toList.drop 46) 46 = true := by decide +kernel
def dc_cX11_turnedTwice_dX11_turnedTwice_46_2 := zw_16 db_cX11_turnedTwice_dX11_turnedTwice_46_2
def dX11_turnedTwice_46 := dc_cX11_turnedTwice_dX11_turnedTwice_46_2.1
def dX11_turnedTwice_48 := dc_cX11_turnedTwice_dX11_turnedTwice_46_2.2.1
def dX11_turnedTwice_49 := dc_cX11_turnedTwice_dX11_turnedTwice_46_2.2.2.1
def dX11_turnedTwice_51 := dc_cX11_turnedTwice_dX11_turnedTwice_46_2.2.2.2.1
def dX11_turnedTwice_52 := dc_cX11_turnedTwice_dX11_turnedTwice_46_2.2.2.2.2.1
def dX11_turnedTwice_54 := dc_cX11_turnedTwice_dX11_turnedTwice_46_2.2.2.2.2.2.1
def dX11_turnedTwice_56 := dc_cX11_turnedTwice_dX11_turnedTwice_46_2.2.2.2.2.2.2.1
def dX11_turnedTwice_57 := dc_cX11_turnedTwice_dX11_turnedTwice_46_2.2.2.2.2.2.2.2.1
def dX11_turnedTwice_60 := dc_cX11_turnedTwice_dX11_turnedTwice_46_2.2.2.2.2.2.2.2.2.1
def dX11_turnedTwice_61 := dc_cX11_turnedTwice_dX11_turnedTwice_46_2.2.2.2.2.2.2.2.2.2.1
def dX11_turnedTwice_63 := dc_cX11_turnedTwice_dX11_turnedTwice_46_2.2.2.2.2.2.2.2.2.2.2.1
def dX11_turnedTwice_65 := dc_cX11_turnedTwice_dX11_turnedTwice_46_2.2.2.2.2.2.2.2.2.2.2.2.1
def dX11_turnedTwice_66 := dc_cX11_turnedTwice_dX11_turnedTwice_46_2.2.2.2.2.2.2.2.2.2.2.2.2.1
def dX11_turnedTwice_69 := dc_cX11_turnedTwice_dX11_turnedTwice_46_2.2.2.2.2.2.2.2.2.2.2.2.2.2.1
def dX11_turnedTwice_71 := dc_cX11_turnedTwice_dX11_turnedTwice_46_2.2.2.2.2.2.2.2.2.2.2.2.2.2.2.1
def dX11_turnedTwice_72 := dc_cX11_turnedTwice_dX11_turnedTwice_46_2.2.2.2.2.2.2.2.2.2.2.2.2.2.2.2
set_option maxRecDepth 100000 in
theorem db_cX11_turnedTwice_dX11_turnedTwice_74_3 : zw [(74, .imul, 1), (75, .iload 8, 2), (77, .iadd, 1), (78, .lconst 1, 1), (79, .aload_n 2, 1), (80, .iconst 4, 1), (81, .iload 7, 2), (83, .imul, 1), (84, .iload 8, 2), (86, .iadd, 1), (87, .iaload, 1), (88, .lshl, 1), (89, .lastore, 1), (90, .iinc 8 1, 3), (93, .goto (-30), 3), (96, .aload_n 2, 1)] (cX11_turnedTwice.data.toList.drop 74) 74 = true := by decide +kernel
def dc_cX11_turnedTwice_dX11_turnedTwice_74_3 := zw_16 db_cX11_turnedTwice_dX11_turnedTwice_74_3
def dX11_turnedTwice_74 := dc_cX11_turnedTwice_dX11_turnedTwice_74_3.1
def dX11_turnedTwice_75 := dc_cX11_turnedTwice_dX11_turnedTwice_74_3.2.1
def dX11_turnedTwice_77 := dc_cX11_turnedTwice_dX11_turnedTwice_74_3.2.2.1
def dX11_turnedTwice_78 := dc_cX11_turnedTwice_dX11_turnedTwice_74_3.2.2.2.1
def dX11_turnedTwice_79 := dc_cX11_turnedTwice_dX11_turnedTwice_74_3.2.2.2.2.1
def dX11_turnedTwice_80 := dc_cX11_turnedTwice_dX11_turnedTwice_74_3.2.2.2.2.2.1
def dX11_turnedTwice_81 := dc_cX11_turnedTwice_dX11_turnedTwice_74_3.2.2.2.2.2.2.1
def dX11_turnedTwice_83 := dc_cX11_turnedTwice_dX11_turnedTwice_74_3.2.2.2.2.2.2.2.1
def dX11_turnedTwice_84 := dc_cX11_turnedTwice_dX11_turnedTwice_74_3.2.2.2.2.2.2.2.2.1
def dX11_turnedTwice_86 := dc_cX11_turnedTwice_dX11_turnedTwice_74_3.2.2.2.2.2.2.2.2.2.1
def dX11_turnedTwice_87 := dc_cX11_turnedTwice_dX11_turnedTwice_74_3.2.2.2.2.2.2.2.2.2.2.1
def dX11_turnedTwice_88 := dc_cX11_turnedTwice_dX11_turnedTwice_74_3.2.2.2.2.2.2.2.2.2.2.2.1
def dX11_turnedTwice_89 := dc_cX11_turnedTwice_dX11_turnedTwice_74_3.2.2.2.2.2.2.2.2.2.2.2.2.1
def dX11_turnedTwice_90 := dc_cX11_turnedTwice_dX11_turnedTwice_74_3.2.2.2.2.2.2.2.2.2.2.2.2.2.1
def dX11_turnedTwice_93 := dc_cX11_turnedTwice_dX11_turnedTwice_74_3.2.2.2.2.2.2.2.2.2.2.2.2.2.2.1
def dX11_turnedTwice_96 := dc_cX11_turnedTwice_dX11_turnedTwice_74_3.2.2.2.2.2.2.2.2.2.2.2.2.2.2.2
set_option maxRecDepth 100000 in
theorem db_cX11_turnedTwice_dX11_turnedTwice_97_4 : zw [(97, .iconst 4, 1), (98, .iload 7, 2), (100, .imul, 1), (101, .iconst 3, 1), (102, .iadd, 1), (103, .iaload, 1), (104, .iconst 1, 1), (105, .if_icmp .ne 12, 3), (108, .lload 5, 2), (110, .lconst 1, 1), (111, .iload 7, 2), (113, .lshl, 1), (114, .lor, 1), (115, .lstore 5, 2), (117, .iinc 7 1, 3), (120, .goto (-66), 3)] (cX11_turnedTwice.data.toList.drop 97) 97 = true := by decide +kernel
def dc_cX11_turnedTwice_dX11_turnedTwice_97_4 := zw_16 db_cX11_turnedTwice_dX11_turnedTwice_97_4
def dX11_turnedTwice_97 := dc_cX11_turnedTwice_dX11_turnedTwice_97_4.1
def dX11_turnedTwice_98 := dc_cX11_turnedTwice_dX11_turnedTwice_97_4.2.1
def dX11_turnedTwice_100 := dc_cX11_turnedTwice_dX11_turnedTwice_97_4.2.2.1
def dX11_turnedTwice_101 := dc_cX11_turnedTwice_dX11_turnedTwice_97_4.2.2.2.1
def dX11_turnedTwice_102 := dc_cX11_turnedTwice_dX11_turnedTwice_97_4.2.2.2.2.1
def dX11_turnedTwice_103 := dc_cX11_turnedTwice_dX11_turnedTwice_97_4.2.2.2.2.2.1
def dX11_turnedTwice_104 := dc_cX11_turnedTwice_dX11_turnedTwice_97_4.2.2.2.2.2.2.1
def dX11_turnedTwice_105 := dc_cX11_turnedTwice_dX11_turnedTwice_97_4.2.2.2.2.2.2.2.1
def dX11_turnedTwice_108 := dc_cX11_turnedTwice_dX11_turnedTwice_97_4.2.2.2.2.2.2.2.2.1
def dX11_turnedTwice_110 := dc_cX11_turnedTwice_dX11_turnedTwice_97_4.2.2.2.2.2.2.2.2.2.1
def dX11_turnedTwice_111 := dc_cX11_turnedTwice_dX11_turnedTwice_97_4.2.2.2.2.2.2.2.2.2.2.1
def dX11_turnedTwice_113 := dc_cX11_turnedTwice_dX11_turnedTwice_97_4.2.2.2.2.2.2.2.2.2.2.2.1
def dX11_turnedTwice_114 := dc_cX11_turnedTwice_dX11_turnedTwice_97_4.2.2.2.2.2.2.2.2.2.2.2.2.1
def dX11_turnedTwice_115 := dc_cX11_turnedTwice_dX11_turnedTwice_97_4.2.2.2.2.2.2.2.2.2.2.2.2.2.1
def dX11_turnedTwice_117 := dc_cX11_turnedTwice_dX11_turnedTwice_97_4.2.2.2.2.2.2.2.2.2.2.2.2.2.2.1
def dX11_turnedTwice_120 := dc_cX11_turnedTwice_dX11_turnedTwice_97_4.2.2.2.2.2.2.2.2.2.2.2.2.2.2.2
set_option maxRecDepth 100000 in
theorem db_cX11_turnedTwice_dX11_turnedTwice_123_5 : zw [(123, .aload 4, 2), (125, .iload_n 3, 1), (126, .lconst 1, 1), (127, .lload 5, 2), (129, .iconst 1, 1), (130, .invokestatic 58, 3), (133, .areturn, 1)] (cX11_turnedTwice.data.toList.drop 123) 123 = true := by decide +kernel
def dc_cX11_turnedTwice_dX11_turnedTwice_123_5 := zw_7 db_cX11_turnedTwice_dX11_turnedTwice_123_5
def dX11_turnedTwice_123 := dc_cX11_turnedTwice_dX11_turnedTwice_123_5.1
def dX11_turnedTwice_125 := dc_cX11_turnedTwice_dX11_turnedTwice_123_5.2.1
def dX11_turnedTwice_126 := dc_cX11_turnedTwice_dX11_turnedTwice_123_5.2.2.1
def dX11_turnedTwice_127 := dc_cX11_turnedTwice_dX11_turnedTwice_123_5.2.2.2.1
def dX11_turnedTwice_129 := dc_cX11_turnedTwice_dX11_turnedTwice_123_5.2.2.2.2.1
def dX11_turnedTwice_130 := dc_cX11_turnedTwice_dX11_turnedTwice_123_5.2.2.2.2.2.1
def dX11_turnedTwice_133 := dc_cX11_turnedTwice_dX11_turnedTwice_123_5.2.2.2.2.2.2
set_option maxRecDepth 100000 in
theorem db_cX11_found_dX11_found_0_0 : zw [(0, .iload_n 2, 1), (1, .iconst 3, 1), (2, .if_icmp .ne 11, 3), (5, .aload_n 0, 1), (6, .iload_n 1, 1), (7, .invokevirtual 70, 3), (10, .goto 24, 3), (13, .iload_n 2, 1), (14, .iconst 2, 1), (15, .if_icmp .ne 11, 3), (18, .aload_n 0, 1), (19, .iload_n 1, 1), (20, .invokevirtual 73, 3), (23, .goto 11, 3), (26, .aload_n 0, 1), (27, .iload_n 1, 1)] (cX11_found.data.toList.drop 0) 0 = true := by decide +kernel
def dc_cX11_found_dX11_found_0_0 := zw_16 db_cX11_found_dX11_found_0_0
def dX11_found_0 := dc_cX11_found_dX11_found_0_0.1
def dX11_found_1 := dc_cX11_found_dX11_found_0_0.2.1
def dX11_found_2 := dc_cX11_found_dX11_found_0_0.2.2.1
def dX11_found_5 := dc_cX11_found_dX11_found_0_0.2.2.2.1
def dX11_found_6 := dc_cX11_found_dX11_found_0_0.2.2.2.2.1
def dX11_found_7 := dc_cX11_found_dX11_found_0_0.2.2.2.2.2.1
def dX11_found_10 := dc_cX11_found_dX11_found_0_0.2.2.2.2.2.2.1
def dX11_found_13 := dc_cX11_found_dX11_found_0_0.2.2.2.2.2.2.2.1
def dX11_found_14 := dc_cX11_found_dX11_found_0_0.2.2.2.2.2.2.2.2.1
def dX11_found_15 := dc_cX11_found_dX11_found_0_0.2.2.2.2.2.2.2.2.2.1
def dX11_found_18 := dc_cX11_found_dX11_found_0_0.2.2.2.2.2.2.2.2.2.2.1
def dX11_found_19 := dc_cX11_found_dX11_found_0_0.2.2.2.2.2.2.2.2.2.2.2.1
def dX11_found_20 := dc_cX11_found_dX11_found_0_0.2.2.2.2.2.2.2.2.2.2.2.2.1
def dX11_found_23 := dc_cX11_found_dX11_found_0_0.2.2.2.2.2.2.2.2.2.2.2.2.2.1
def dX11_found_26 := dc_cX11_found_dX11_found_0_0.2.2.2.2.2.2.2.2.2.2.2.2.2.2.1
def dX11_found_27 := dc_cX11_found_dX11_found_0_0.2.2.2.2.2.2.2.2.2.2.2.2.2.2.2
set_option maxRecDepth 100000 in
theorem db_cX11_found_dX11_found_28_1 : zw [(28, .invokevirtual 70, 3), (31, .invokestatic 76, 3), (34, .areturn, 1)] (cX11_found.data.toList.drop 28) 28 = true := by decide +kernel
def dc_cX11_found_dX11_found_28_1 := zw_3 db_cX11_found_dX11_found_28_1
def dX11_found_28 := dc_cX11_found_dX11_found_28_1.1
def dX11_found_31 := dc_cX11_found_dX11_found_28_1.2.1
def dX11_found_34 := dc_cX11_found_dX11_found_28_1.2.2
set_option maxRecDepth 100000 in
theorem db_cX11_ways_dX11_ways_0_0 : zw [(0, .aload_n 0, 1), (1, .arraylength, 1), (2, .iconst 4, 1), (3, .idiv, 1), (4, .istore_n 2, 1), (5, .iload_n 2, 1), (6, .iload_n 1, 1), (7, .iconst 1, 1), (8, .iadd, 1), (9, .imul, 1)] (cX11_ways.data.toList.drop 0) 0 = true := by decide +kernel
def dc_cX11_ways_dX11_ways_0_0 := zw_10 db_cX11_ways_dX11_ways_0_0
def dX11_ways_0 := dc_cX11_ways_dX11_ways_0_0.1
def dX11_ways_1 := dc_cX11_ways_dX11_ways_0_0.2.1
def dX11_ways_2 := dc_cX11_ways_dX11_ways_0_0.2.2.1
def dX11_ways_3 := dc_cX11_ways_dX11_ways_0_0.2.2.2.1
def dX11_ways_4 := dc_cX11_ways_dX11_ways_0_0.2.2.2.2.1
def dX11_ways_5 := dc_cX11_ways_dX11_ways_0_0.2.2.2.2.2.1
def dX11_ways_6 := dc_cX11_ways_dX11_ways_0_0.2.2.2.2.2.2.1
def dX11_ways_7 := dc_cX11_ways_dX11_ways_0_0.2.2.2.2.2.2.2.1
def dX11_ways_8 := dc_cX11_ways_dX11_ways_0_0.2.2.2.2.2.2.2.2.1
def dX11_ways_9 := dc_cX11_ways_dX11_ways_0_0.2.2.2.2.2.2.2.2.2
theorem dX11_ways_10 : decode cX11_ways 10 = .ok (.newarray .int, 2) := by decide +kernel
set_option maxRecDepth 100000 in
theorem db_cX11_ways_dX11_ways_12_1 : zw [(12, .astore_n 3, 1), (13, .iconst 0, 1), (14, .istore 4, 2), (16, .iload 4, 2), (18, .iload_n 1, 1), (19, .if_icmp .gt 103, 3), (22, .iconst 0, 1), (23, .istore 5, 2), (25, .iload 5, 2), (27, .iload_n 2, 1), (28, .if_icmp .ge 88, 3), (31, .aload_n 0, 1), (32, .iconst 4, 1), (33, .iload 5, 2), (35, .imul, 1), (36, .iconst 3, 1)] (cX11_ways.data.toList.drop 12) 12 = true := by decide +kernel
def dc_cX11_ways_dX11_ways_12_1 := zw_16 db_cX11_ways_dX11_ways_12_1
def dX11_ways_12 := dc_cX11_ways_dX11_ways_12_1.1
def dX11_ways_13 := dc_cX11_ways_dX11_ways_12_1.2.1
def dX11_ways_14 := dc_cX11_ways_dX11_ways_12_1.2.2.1
def dX11_ways_16 := dc_cX11_ways_dX11_ways_12_1.2.2.2.1
def dX11_ways_18 := dc_cX11_ways_dX11_ways_12_1.2.2.2.2.1
def dX11_ways_19 := dc_cX11_ways_dX11_ways_12_1.2.2.2.2.2.1
def dX11_ways_22 := dc_cX11_ways_dX11_ways_12_1.2.2.2.2.2.2.1
def dX11_ways_23 := dc_cX11_ways_dX11_ways_12_1.2.2.2.2.2.2.2.1
def dX11_ways_25 := dc_cX11_ways_dX11_ways_12_1.2.2.2.2.2.2.2.2.1
def dX11_ways_27 := dc_cX11_ways_dX11_ways_12_1.2.2.2.2.2.2.2.2.2.1
def dX11_ways_28 := dc_cX11_ways_dX11_ways_12_1.2.2.2.2.2.2.2.2.2.2.1
def dX11_ways_31 := dc_cX11_ways_dX11_ways_12_1.2.2.2.2.2.2.2.2.2.2.2.1
def dX11_ways_32 := dc_cX11_ways_dX11_ways_12_1.2.2.2.2.2.2.2.2.2.2.2.2.1
def dX11_ways_33 := dc_cX11_ways_dX11_ways_12_1.2.2.2.2.2.2.2.2.2.2.2.2.2.1
def dX11_ways_35 := dc_cX11_ways_dX11_ways_12_1.2.2.2.2.2.2.2.2.2.2.2.2.2.2.1
def dX11_ways_36 := dc_cX11_ways_dX11_ways_12_1.2.2.2.2.2.2.2.2.2.2.2.2.2.2.2
set_option maxRecDepth 100000 in
theorem db_cX11_ways_dX11_ways_37_2 : zw [(37, .iadd, 1), (38, .iaload, 1), (39, .istore 6, 2), (41, .iload 4, 2), (43, .ifCond .le 56, 3), (46, .aload_n 3, 1), (47, .iload 4, 2), (49, .iconst 1, 1), (50, .isub, 1), (51, .iload_n 2, 1), (52, .imul, 1), (53, .aload_n 0, 1), (54, .iconst 4, 1), (55, .iload 5, 2), (57, .imul, 1), (58, .iaload, 1)] (cX11_ways.data.toList.drop 37) 37 = true := by decide +kernel
def dc_cX11_ways_dX11_ways_37_2 := zw_16 db_cX11_ways_dX11_ways_37_2
def dX11_ways_37 := dc_cX11_ways_dX11_ways_37_2.1
def dX11_ways_38 := dc_cX11_ways_dX11_ways_37_2.2.1
def dX11_ways_39 := dc_cX11_ways_dX11_ways_37_2.2.2.1
def dX11_ways_41 := dc_cX11_ways_dX11_ways_37_2.2.2.2.1
def dX11_ways_43 := dc_cX11_ways_dX11_ways_37_2.2.2.2.2.1
def dX11_ways_46 := dc_cX11_ways_dX11_ways_37_2.2.2.2.2.2.1
def dX11_ways_47 := dc_cX11_ways_dX11_ways_37_2.2.2.2.2.2.2.1
def dX11_ways_49 := dc_cX11_ways_dX11_ways_37_2.2.2.2.2.2.2.2.1
def dX11_ways_50 := dc_cX11_ways_dX11_ways_37_2.2.2.2.2.2.2.2.2.1
def dX11_ways_51 := dc_cX11_ways_dX11_ways_37_2.2.2.2.2.2.2.2.2.2.1
def dX11_ways_52 := dc_cX11_ways_dX11_ways_37_2.2.2.2.2.2.2.2.2.2.2.1
def dX11_ways_53 := dc_cX11_ways_dX11_ways_37_2.2.2.2.2.2.2.2.2.2.2.2.1
def dX11_ways_54 := dc_cX11_ways_dX11_ways_37_2.2.2.2.2.2.2.2.2.2.2.2.2.1
def dX11_ways_55 := dc_cX11_ways_dX11_ways_37_2.2.2.2.2.2.2.2.2.2.2.2.2.2.1
def dX11_ways_57 := dc_cX11_ways_dX11_ways_37_2.2.2.2.2.2.2.2.2.2.2.2.2.2.2.1
def dX11_ways_58 := dc_cX11_ways_dX11_ways_37_2.2.2.2.2.2.2.2.2.2.2.2.2.2.2.2
set_option maxRecDepth 100000 in
theorem db_cX11_ways_dX11_ways_59_3 : zw [(59, .iadd, 1), (60, .iaload, 1), (61, .aload_n 3, 1), (62, .iload 4, 2), (64, .iconst 1, 1), (65, .isub, 1), (66, .iload_n 2, 1), (67, .imul, 1), (68, .aload_n 0, 1), (69, .iconst 4, 1), (70, .iload 5, 2), (72, .imul, 1), (73, .iconst 1, 1), (74, .iadd, 1), (75, .iaload, 1), (76, .iadd, 1)] (cX11_ways.data.toList.drop 59) 59 = true := by decide +kernel
def dc_cX11_ways_dX11_ways_59_3 := zw_16 db_cX11_ways_dX11_ways_59_3
def dX11_ways_59 := dc_cX11_ways_dX11_ways_59_3.1
def dX11_ways_60 := dc_cX11_ways_dX11_ways_59_3.2.1
def dX11_ways_61 := dc_cX11_ways_dX11_ways_59_3.2.2.1
def dX11_ways_62 := dc_cX11_ways_dX11_ways_59_3.2.2.2.1
def dX11_ways_64 := dc_cX11_ways_dX11_ways_59_3.2.2.2.2.1
def dX11_ways_65 := dc_cX11_ways_dX11_ways_59_3.2.2.2.2.2.1
def dX11_ways_66 := dc_cX11_ways_dX11_ways_59_3.2.2.2.2.2.2.1
def dX11_ways_67 := dc_cX11_ways_dX11_ways_59_3.2.2.2.2.2.2.2.1
def dX11_ways_68 := dc_cX11_ways_dX11_ways_59_3.2.2.2.2.2.2.2.2.1
def dX11_ways_69 := dc_cX11_ways_dX11_ways_59_3.2.2.2.2.2.2.2.2.2.1
def dX11_ways_70 := dc_cX11_ways_dX11_ways_59_3.2.2.2.2.2.2.2.2.2.2.1
def dX11_ways_72 := dc_cX11_ways_dX11_ways_59_3.2.2.2.2.2.2.2.2.2.2.2.1
def dX11_ways_73 := dc_cX11_ways_dX11_ways_59_3.2.2.2.2.2.2.2.2.2.2.2.2.1
def dX11_ways_74 := dc_cX11_ways_dX11_ways_59_3.2.2.2.2.2.2.2.2.2.2.2.2.2.1
def dX11_ways_75 := dc_cX11_ways_dX11_ways_59_3.2.2.2.2.2.2.2.2.2.2.2.2.2.2.1
def dX11_ways_76 := dc_cX11_ways_dX11_ways_59_3.2.2.2.2.2.2.2.2.2.2.2.2.2.2.2
set_option maxRecDepth 100000 in
theorem db_cX11_ways_dX11_ways_77_4 : zw [(77, .iaload, 1), (78, .iadd, 1), (79, .aload_n 3, 1), (80, .iload 4, 2), (82, .iconst 1, 1), (83, .isub, 1), (84, .iload_n 2, 1), (85, .imul, 1), (86, .aload_n 0, 1), (87, .iconst 4, 1), (88, .iload 5, 2), (90, .imul, 1), (91, .iconst 2, 1), (92, .iadd, 1), (93, .iaload, 1), (94, .iadd, 1)] (cX11_ways.data.toList.drop 77) 77 = true := by decide +kernel
def dc_cX11_ways_dX11_ways_77_4 := zw_16 db_cX11_ways_dX11_ways_77_4
def dX11_ways_77 := dc_cX11_ways_dX11_ways_77_4.1
def dX11_ways_78 := dc_cX11_ways_dX11_ways_77_4.2.1
def dX11_ways_79 := dc_cX11_ways_dX11_ways_77_4.2.2.1
def dX11_ways_80 := dc_cX11_ways_dX11_ways_77_4.2.2.2.1
def dX11_ways_82 := dc_cX11_ways_dX11_ways_77_4.2.2.2.2.1
def dX11_ways_83 := dc_cX11_ways_dX11_ways_77_4.2.2.2.2.2.1
def dX11_ways_84 := dc_cX11_ways_dX11_ways_77_4.2.2.2.2.2.2.1
def dX11_ways_85 := dc_cX11_ways_dX11_ways_77_4.2.2.2.2.2.2.2.1
def dX11_ways_86 := dc_cX11_ways_dX11_ways_77_4.2.2.2.2.2.2.2.2.1
def dX11_ways_87 := dc_cX11_ways_dX11_ways_77_4.2.2.2.2.2.2.2.2.2.1
def dX11_ways_88 := dc_cX11_ways_dX11_ways_77_4.2.2.2.2.2.2.2.2.2.2.1
def dX11_ways_90 := dc_cX11_ways_dX11_ways_77_4.2.2.2.2.2.2.2.2.2.2.2.1
def dX11_ways_91 := dc_cX11_ways_dX11_ways_77_4.2.2.2.2.2.2.2.2.2.2.2.2.1
def dX11_ways_92 := dc_cX11_ways_dX11_ways_77_4.2.2.2.2.2.2.2.2.2.2.2.2.2.1
def dX11_ways_93 := dc_cX11_ways_dX11_ways_77_4.2.2.2.2.2.2.2.2.2.2.2.2.2.2.1
def dX11_ways_94 := dc_cX11_ways_dX11_ways_77_4.2.2.2.2.2.2.2.2.2.2.2.2.2.2.2
set_option maxRecDepth 100000 in
theorem db_cX11_ways_dX11_ways_95_5 : zw [(95, .iaload, 1), (96, .iadd, 1), (97, .istore 6, 2), (99, .aload_n 3, 1), (100, .iload 4, 2), (102, .iload_n 2, 1), (103, .imul, 1), (104, .iload 5, 2), (106, .iadd, 1), (107, .iload 6, 2), (109, .iastore, 1), (110, .iinc 5 1, 3), (113, .goto (-88), 3), (116, .iinc 4 1, 3), (119, .goto (-103), 3), (122, .aload_n 3, 1)] (cX11_ways.data.toList.drop 95) 95 = true := by decide +kernel
def dc_cX11_ways_dX11_ways_95_5 := zw_16 db_cX11_ways_dX11_ways_95_5
def dX11_ways_95 := dc_cX11_ways_dX11_ways_95_5.1
def dX11_ways_96 := dc_cX11_ways_dX11_ways_95_5.2.1
def dX11_ways_97 := dc_cX11_ways_dX11_ways_95_5.2.2.1
def dX11_ways_99 := dc_cX11_ways_dX11_ways_95_5.2.2.2.1
def dX11_ways_100 := dc_cX11_ways_dX11_ways_95_5.2.2.2.2.1
def dX11_ways_102 := dc_cX11_ways_dX11_ways_95_5.2.2.2.2.2.1
def dX11_ways_103 := dc_cX11_ways_dX11_ways_95_5.2.2.2.2.2.2.1
def dX11_ways_104 := dc_cX11_ways_dX11_ways_95_5.2.2.2.2.2.2.2.1
def dX11_ways_106 := dc_cX11_ways_dX11_ways_95_5.2.2.2.2.2.2.2.2.1
def dX11_ways_107 := dc_cX11_ways_dX11_ways_95_5.2.2.2.2.2.2.2.2.2.1
def dX11_ways_109 := dc_cX11_ways_dX11_ways_95_5.2.2.2.2.2.2.2.2.2.2.1
def dX11_ways_110 := dc_cX11_ways_dX11_ways_95_5.2.2.2.2.2.2.2.2.2.2.2.1
def dX11_ways_113 := dc_cX11_ways_dX11_ways_95_5.2.2.2.2.2.2.2.2.2.2.2.2.1
def dX11_ways_116 := dc_cX11_ways_dX11_ways_95_5.2.2.2.2.2.2.2.2.2.2.2.2.2.1
def dX11_ways_119 := dc_cX11_ways_dX11_ways_95_5.2.2.2.2.2.2.2.2.2.2.2.2.2.2.1
def dX11_ways_122 := dc_cX11_ways_dX11_ways_95_5.2.2.2.2.2.2.2.2.2.2.2.2.2.2.2
set_option maxRecDepth 100000 in
theorem db_cX11_ways_dX11_ways_123_6 : zw [(123, .areturn, 1)] (cX11_ways.data.toList.drop 123) 123 = true := by decide +kernel
def dX11_ways_123 := zw_1 db_cX11_ways_dX11_ways_123_6
set_option maxRecDepth 100000 in
theorem db_cX11_isUnlike_dX11_isUnlike_0_0 : zw [(0, .aload_n 0, 1), (1, .iconst 4, 1), (2, .iload_n 2, 1), (3, .bipush 32, 2), (5, .idiv, 1), (6, .imul, 1), (7, .iconst 3, 1), (8, .iadd, 1), (9, .iaload, 1), (10, .aload_n 1, 1), (11, .iconst 4, 1), (12, .iload_n 2, 1), (13, .bipush 32, 2), (15, .irem, 1), (16, .imul, 1), (17, .iconst 3, 1)] (cX11_isUnlike.data.toList.drop 0) 0 = true := by decide +kernel
def dc_cX11_isUnlike_dX11_isUnlike_0_0 := zw_16 db_cX11_isUnlike_dX11_isUnlike_0_0
def dX11_isUnlike_0 := dc_cX11_isUnlike_dX11_isUnlike_0_0.1
def dX11_isUnlike_1 := dc_cX11_isUnlike_dX11_isUnlike_0_0.2.1
def dX11_isUnlike_2 := dc_cX11_isUnlike_dX11_isUnlike_0_0.2.2.1
def dX11_isUnlike_3 := dc_cX11_isUnlike_dX11_isUnlike_0_0.2.2.2.1
def dX11_isUnlike_5 := dc_cX11_isUnlike_dX11_isUnlike_0_0.2.2.2.2.1
def dX11_isUnlike_6 := dc_cX11_isUnlike_dX11_isUnlike_0_0.2.2.2.2.2.1
def dX11_isUnlike_7 := dc_cX11_isUnlike_dX11_isUnlike_0_0.2.2.2.2.2.2.1
def dX11_isUnlike_8 := dc_cX11_isUnlike_dX11_isUnlike_0_0.2.2.2.2.2.2.2.1
def dX11_isUnlike_9 := dc_cX11_isUnlike_dX11_isUnlike_0_0.2.2.2.2.2.2.2.2.1
def dX11_isUnlike_10 := dc_cX11_isUnlike_dX11_isUnlike_0_0.2.2.2.2.2.2.2.2.2.1
def dX11_isUnlike_11 := dc_cX11_isUnlike_dX11_isUnlike_0_0.2.2.2.2.2.2.2.2.2.2.1
def dX11_isUnlike_12 := dc_cX11_isUnlike_dX11_isUnlike_0_0.2.2.2.2.2.2.2.2.2.2.2.1
def dX11_isUnlike_13 := dc_cX11_isUnlike_dX11_isUnlike_0_0.2.2.2.2.2.2.2.2.2.2.2.2.1
def dX11_isUnlike_15 := dc_cX11_isUnlike_dX11_isUnlike_0_0.2.2.2.2.2.2.2.2.2.2.2.2.2.1
def dX11_isUnlike_16 := dc_cX11_isUnlike_dX11_isUnlike_0_0.2.2.2.2.2.2.2.2.2.2.2.2.2.2.1
def dX11_isUnlike_17 := dc_cX11_isUnlike_dX11_isUnlike_0_0.2.2.2.2.2.2.2.2.2.2.2.2.2.2.2
set_option maxRecDepth 100000 in
theorem db_cX11_isUnlike_dX11_isUnlike_18_1 : zw [(18, .iadd, 1), (19, .iaload, 1), (20, .if_icmp .eq 7, 3), (23, .iconst 1, 1), (24, .goto 4, 3), (27, .iconst 0, 1), (28, .ireturn, 1)] (cX11_isUnlike.data.toList.drop 18) 18 = true := by decide +kernel
def dc_cX11_isUnlike_dX11_isUnlike_18_1 := zw_7 db_cX11_isUnlike_dX11_isUnlike_18_1
def dX11_isUnlike_18 := dc_cX11_isUnlike_dX11_isUnlike_18_1.1
def dX11_isUnlike_19 := dc_cX11_isUnlike_dX11_isUnlike_18_1.2.1
def dX11_isUnlike_20 := dc_cX11_isUnlike_dX11_isUnlike_18_1.2.2.1
def dX11_isUnlike_23 := dc_cX11_isUnlike_dX11_isUnlike_18_1.2.2.2.1
def dX11_isUnlike_24 := dc_cX11_isUnlike_dX11_isUnlike_18_1.2.2.2.2.1
def dX11_isUnlike_27 := dc_cX11_isUnlike_dX11_isUnlike_18_1.2.2.2.2.2.1
def dX11_isUnlike_28 := dc_cX11_isUnlike_dX11_isUnlike_18_1.2.2.2.2.2.2
set_option maxRecDepth 100000 in
theorem db_cX11_met_dX11_met_0_0 : zw [(0, .iconst 3, 1), (1, .iload_n 2, 1), (2, .iconst 1, 1), (3, .iadd, 1), (4, .imul, 1), (5, .iconst 1, 1), (6, .iadd, 1)] (cX11_met.data.toList.drop 0) 0 = true := by decide +kernel
def dc_cX11_met_dX11_met_0_0 := zw_7 db_cX11_met_dX11_met_0_0
def dX11_met_0 := dc_cX11_met_dX11_met_0_0.1
def dX11_met_1 := dc_cX11_met_dX11_met_0_0.2.1
def dX11_met_2 := dc_cX11_met_dX11_met_0_0.2.2.1
def dX11_met_3 := dc_cX11_met_dX11_met_0_0.2.2.2.1
def dX11_met_4 := dc_cX11_met_dX11_met_0_0.2.2.2.2.1
def dX11_met_5 := dc_cX11_met_dX11_met_0_0.2.2.2.2.2.1
def dX11_met_6 := dc_cX11_met_dX11_met_0_0.2.2.2.2.2.2
theorem dX11_met_7 : decode cX11_met 7 = .ok (.newarray .int, 2) := by decide +kernel
set_option maxRecDepth 100000 in
theorem db_cX11_met_dX11_met_9_1 : zw [(9, .astore 4, 2), (11, .iconst 1, 1), (12, .istore 5, 2), (14, .iconst 0, 1), (15, .istore 6, 2), (17, .iload 6, 2), (19, .iload 5, 2), (21, .if_icmp .ge 184, 3), (24, .iconst (-1), 1), (25, .istore 7, 2), (27, .iload 7, 2), (29, .iconst 3, 1), (30, .if_icmp .ge 169, 3), (33, .aload 4, 2), (35, .iconst 3, 1), (36, .iload 6, 2)] (cX11_met.data.toList.drop 9) 9 = true := by decide +kernel
def dc_cX11_met_dX11_met_9_1 := zw_16 db_cX11_met_dX11_met_9_1
def dX11_met_9 := dc_cX11_met_dX11_met_9_1.1
def dX11_met_11 := dc_cX11_met_dX11_met_9_1.2.1
def dX11_met_12 := dc_cX11_met_dX11_met_9_1.2.2.1
def dX11_met_14 := dc_cX11_met_dX11_met_9_1.2.2.2.1
def dX11_met_15 := dc_cX11_met_dX11_met_9_1.2.2.2.2.1
def dX11_met_17 := dc_cX11_met_dX11_met_9_1.2.2.2.2.2.1
def dX11_met_19 := dc_cX11_met_dX11_met_9_1.2.2.2.2.2.2.1
def dX11_met_21 := dc_cX11_met_dX11_met_9_1.2.2.2.2.2.2.2.1
def dX11_met_24 := dc_cX11_met_dX11_met_9_1.2.2.2.2.2.2.2.2.1
def dX11_met_25 := dc_cX11_met_dX11_met_9_1.2.2.2.2.2.2.2.2.2.1
def dX11_met_27 := dc_cX11_met_dX11_met_9_1.2.2.2.2.2.2.2.2.2.2.1
def dX11_met_29 := dc_cX11_met_dX11_met_9_1.2.2.2.2.2.2.2.2.2.2.2.1
def dX11_met_30 := dc_cX11_met_dX11_met_9_1.2.2.2.2.2.2.2.2.2.2.2.2.1
def dX11_met_33 := dc_cX11_met_dX11_met_9_1.2.2.2.2.2.2.2.2.2.2.2.2.2.1
def dX11_met_35 := dc_cX11_met_dX11_met_9_1.2.2.2.2.2.2.2.2.2.2.2.2.2.2.1
def dX11_met_36 := dc_cX11_met_dX11_met_9_1.2.2.2.2.2.2.2.2.2.2.2.2.2.2.2
set_option maxRecDepth 100000 in
theorem db_cX11_met_dX11_met_38_2 : zw [(38, .imul, 1), (39, .iconst 1, 1), (40, .iadd, 1), (41, .iaload, 1), (42, .istore 8, 2), (44, .iload 7, 2), (46, .ifCond .ge 8, 3), (49, .iload 8, 2), (51, .goto 31, 3), (54, .aload_n 0, 1), (55, .iconst 4, 1), (56, .iload 8, 2), (58, .bipush 32, 2), (60, .idiv, 1), (61, .imul, 1), (62, .iload 7, 2)] (cX11_met.data.toList.drop 38) 38 = true := by decide +kernel
def dc_cX11_met_dX11_met_38_2 := zw_16 db_cX11_met_dX11_met_38_2
def dX11_met_38 := dc_cX11_met_dX11_met_38_2.1
def dX11_met_39 := dc_cX11_met_dX11_met_38_2.2.1
def dX11_met_40 := dc_cX11_met_dX11_met_38_2.2.2.1
def dX11_met_41 := dc_cX11_met_dX11_met_38_2.2.2.2.1
def dX11_met_42 := dc_cX11_met_dX11_met_38_2.2.2.2.2.1
def dX11_met_44 := dc_cX11_met_dX11_met_38_2.2.2.2.2.2.1
def dX11_met_46 := dc_cX11_met_dX11_met_38_2.2.2.2.2.2.2.1
def dX11_met_49 := dc_cX11_met_dX11_met_38_2.2.2.2.2.2.2.2.1
def dX11_met_51 := dc_cX11_met_dX11_met_38_2.2.2.2.2.2.2.2.2.1
def dX11_met_54 := dc_cX11_met_dX11_met_38_2.2.2.2.2.2.2.2.2.2.1
def dX11_met_55 := dc_cX11_met_dX11_met_38_2.2.2.2.2.2.2.2.2.2.2.1
def dX11_met_56 := dc_cX11_met_dX11_met_38_2.2.2.2.2.2.2.2.2.2.2.2.1
def dX11_met_58 := dc_cX11_met_dX11_met_38_2.2.2.2.2.2.2.2.2.2.2.2.2.1
def dX11_met_60 := dc_cX11_met_dX11_met_38_2.2.2.2.2.2.2.2.2.2.2.2.2.2.1
def dX11_met_61 := dc_cX11_met_dX11_met_38_2.2.2.2.2.2.2.2.2.2.2.2.2.2.2.1
def dX11_met_62 := dc_cX11_met_dX11_met_38_2.2.2.2.2.2.2.2.2.2.2.2.2.2.2.2
set_option maxRecDepth 100000 in
theorem db_cX11_met_dX11_met_64_3 : zw [(64, .iadd, 1), (65, .iaload, 1), (66, .bipush 32, 2), (68, .imul, 1), (69, .aload_n 1, 1), (70, .iconst 4, 1), (71, .iload 8, 2), (73, .bipush 32, 2), (75, .irem, 1), (76, .imul, 1), (77, .iload 7, 2), (79, .iadd, 1), (80, .iaload, 1), (81, .iadd, 1), (82, .istore 9, 2), (84, .iconst 0, 1)] (cX11_met.data.toList.drop 64) 64 = true := by decide +kernel
def dc_cX11_met_dX11_met_64_3 := zw_16 db_cX11_met_dX11_met_64_3
def dX11_met_64 := dc_cX11_met_dX11_met_64_3.1
def dX11_met_65 := dc_cX11_met_dX11_met_64_3.2.1
def dX11_met_66 := dc_cX11_met_dX11_met_64_3.2.2.1
def dX11_met_68 := dc_cX11_met_dX11_met_64_3.2.2.2.1
def dX11_met_69 := dc_cX11_met_dX11_met_64_3.2.2.2.2.1
def dX11_met_70 := dc_cX11_met_dX11_met_64_3.2.2.2.2.2.1
def dX11_met_71 := dc_cX11_met_dX11_met_64_3.2.2.2.2.2.2.1
def dX11_met_73 := dc_cX11_met_dX11_met_64_3.2.2.2.2.2.2.2.1
def dX11_met_75 := dc_cX11_met_dX11_met_64_3.2.2.2.2.2.2.2.2.1
def dX11_met_76 := dc_cX11_met_dX11_met_64_3.2.2.2.2.2.2.2.2.2.1
def dX11_met_77 := dc_cX11_met_dX11_met_64_3.2.2.2.2.2.2.2.2.2.2.1
def dX11_met_79 := dc_cX11_met_dX11_met_64_3.2.2.2.2.2.2.2.2.2.2.2.1
def dX11_met_80 := dc_cX11_met_dX11_met_64_3.2.2.2.2.2.2.2.2.2.2.2.2.1
def dX11_met_81 := dc_cX11_met_dX11_met_64_3.2.2.2.2.2.2.2.2.2.2.2.2.2.1
def dX11_met_82 := dc_cX11_met_dX11_met_64_3.2.2.2.2.2.2.2.2.2.2.2.2.2.2.1
def dX11_met_84 := dc_cX11_met_dX11_met_64_3.2.2.2.2.2.2.2.2.2.2.2.2.2.2.2
set_option maxRecDepth 100000 in
theorem db_cX11_met_dX11_met_85_4 : zw [(85, .istore 10, 2), (87, .iload 10, 2), (89, .iload 5, 2), (91, .if_icmp .ge 23, 3), (94, .aload 4, 2), (96, .iconst 3, 1), (97, .iload 10, 2), (99, .imul, 1), (100, .iconst 1, 1), (101, .iadd, 1), (102, .iaload, 1), (103, .iload 9, 2), (105, .if_icmp .eq 9, 3), (108, .iinc 10 1, 3), (111, .goto (-24), 3), (114, .iload 10, 2)] (cX11_met.data.toList.drop 85) 85 = true := by decide +kernel
def dc_cX11_met_dX11_met_85_4 := zw_16 db_cX11_met_dX11_met_85_4
def dX11_met_85 := dc_cX11_met_dX11_met_85_4.1
def dX11_met_87 := dc_cX11_met_dX11_met_85_4.2.1
def dX11_met_89 := dc_cX11_met_dX11_met_85_4.2.2.1
def dX11_met_91 := dc_cX11_met_dX11_met_85_4.2.2.2.1
def dX11_met_94 := dc_cX11_met_dX11_met_85_4.2.2.2.2.1
def dX11_met_96 := dc_cX11_met_dX11_met_85_4.2.2.2.2.2.1
def dX11_met_97 := dc_cX11_met_dX11_met_85_4.2.2.2.2.2.2.1
def dX11_met_99 := dc_cX11_met_dX11_met_85_4.2.2.2.2.2.2.2.1
def dX11_met_100 := dc_cX11_met_dX11_met_85_4.2.2.2.2.2.2.2.2.1
def dX11_met_101 := dc_cX11_met_dX11_met_85_4.2.2.2.2.2.2.2.2.2.1
def dX11_met_102 := dc_cX11_met_dX11_met_85_4.2.2.2.2.2.2.2.2.2.2.1
def dX11_met_103 := dc_cX11_met_dX11_met_85_4.2.2.2.2.2.2.2.2.2.2.2.1
def dX11_met_105 := dc_cX11_met_dX11_met_85_4.2.2.2.2.2.2.2.2.2.2.2.2.1
def dX11_met_108 := dc_cX11_met_dX11_met_85_4.2.2.2.2.2.2.2.2.2.2.2.2.2.1
def dX11_met_111 := dc_cX11_met_dX11_met_85_4.2.2.2.2.2.2.2.2.2.2.2.2.2.2.1
def dX11_met_114 := dc_cX11_met_dX11_met_85_4.2.2.2.2.2.2.2.2.2.2.2.2.2.2.2
set_option maxRecDepth 100000 in
theorem db_cX11_met_dX11_met_116_5 : zw [(116, .iload 5, 2), (118, .if_icmp .ne 39, 3), (121, .aload 4, 2), (123, .iconst 3, 1), (124, .iload 5, 2), (126, .imul, 1), (127, .iconst 1, 1), (128, .iadd, 1), (129, .iload 9, 2), (131, .iastore, 1), (132, .aload 4, 2), (134, .iconst 3, 1), (135, .iload 5, 2), (137, .imul, 1), (138, .iconst 2, 1), (139, .iadd, 1)] (cX11_met.data.toList.drop 116) 116 = true := by decide +kernel
def dc_cX11_met_dX11_met_116_5 := zw_16 db_cX11_met_dX11_met_116_5
def dX11_met_116 := dc_cX11_met_dX11_met_116_5.1
def dX11_met_118 := dc_cX11_met_dX11_met_116_5.2.1
def dX11_met_121 := dc_cX11_met_dX11_met_116_5.2.2.1
def dX11_met_123 := dc_cX11_met_dX11_met_116_5.2.2.2.1
def dX11_met_124 := dc_cX11_met_dX11_met_116_5.2.2.2.2.1
def dX11_met_126 := dc_cX11_met_dX11_met_116_5.2.2.2.2.2.1
def dX11_met_127 := dc_cX11_met_dX11_met_116_5.2.2.2.2.2.2.1
def dX11_met_128 := dc_cX11_met_dX11_met_116_5.2.2.2.2.2.2.2.1
def dX11_met_129 := dc_cX11_met_dX11_met_116_5.2.2.2.2.2.2.2.2.1
def dX11_met_131 := dc_cX11_met_dX11_met_116_5.2.2.2.2.2.2.2.2.2.1
def dX11_met_132 := dc_cX11_met_dX11_met_116_5.2.2.2.2.2.2.2.2.2.2.1
def dX11_met_134 := dc_cX11_met_dX11_met_116_5.2.2.2.2.2.2.2.2.2.2.2.1
def dX11_met_135 := dc_cX11_met_dX11_met_116_5.2.2.2.2.2.2.2.2.2.2.2.2.1
def dX11_met_137 := dc_cX11_met_dX11_met_116_5.2.2.2.2.2.2.2.2.2.2.2.2.2.1
def dX11_met_138 := dc_cX11_met_dX11_met_116_5.2.2.2.2.2.2.2.2.2.2.2.2.2.2.1
def dX11_met_139 := dc_cX11_met_dX11_met_116_5.2.2.2.2.2.2.2.2.2.2.2.2.2.2.2
set_option maxRecDepth 100000 in
theorem db_cX11_met_dX11_met_140_6 : zw [(140, .iload 6, 2), (142, .iastore, 1), (143, .aload 4, 2), (145, .iconst 3, 1), (146, .iload 5, 2), (148, .imul, 1), (149, .iconst 3, 1), (150, .iadd, 1), (151, .iload 7, 2), (153, .iastore, 1), (154, .iinc 5 1, 3), (157, .aload 4, 2), (159, .iconst 0, 1), (160, .iload 5, 2), (162, .iastore, 1), (163, .iload 5, 2)] (cX11_met.data.toList.drop 140) 140 = true := by decide +kernel
def dc_cX11_met_dX11_met_140_6 := zw_16 db_cX11_met_dX11_met_140_6
def dX11_met_140 := dc_cX11_met_dX11_met_140_6.1
def dX11_met_142 := dc_cX11_met_dX11_met_140_6.2.1
def dX11_met_143 := dc_cX11_met_dX11_met_140_6.2.2.1
def dX11_met_145 := dc_cX11_met_dX11_met_140_6.2.2.2.1
def dX11_met_146 := dc_cX11_met_dX11_met_140_6.2.2.2.2.1
def dX11_met_148 := dc_cX11_met_dX11_met_140_6.2.2.2.2.2.1
def dX11_met_149 := dc_cX11_met_dX11_met_140_6.2.2.2.2.2.2.1
def dX11_met_150 := dc_cX11_met_dX11_met_140_6.2.2.2.2.2.2.2.1
def dX11_met_151 := dc_cX11_met_dX11_met_140_6.2.2.2.2.2.2.2.2.1
def dX11_met_153 := dc_cX11_met_dX11_met_140_6.2.2.2.2.2.2.2.2.2.1
def dX11_met_154 := dc_cX11_met_dX11_met_140_6.2.2.2.2.2.2.2.2.2.2.1
def dX11_met_157 := dc_cX11_met_dX11_met_140_6.2.2.2.2.2.2.2.2.2.2.2.1
def dX11_met_159 := dc_cX11_met_dX11_met_140_6.2.2.2.2.2.2.2.2.2.2.2.2.1
def dX11_met_160 := dc_cX11_met_dX11_met_140_6.2.2.2.2.2.2.2.2.2.2.2.2.2.1
def dX11_met_162 := dc_cX11_met_dX11_met_140_6.2.2.2.2.2.2.2.2.2.2.2.2.2.2.1
def dX11_met_163 := dc_cX11_met_dX11_met_140_6.2.2.2.2.2.2.2.2.2.2.2.2.2.2.2
set_option maxRecDepth 100000 in
theorem db_cX11_met_dX11_met_165_7 : zw [(165, .iload_n 2, 1), (166, .if_icmp .gt 24, 3), (169, .iload_n 3, 1), (170, .ifCond .eq 23, 3), (173, .aload_n 0, 1), (174, .aload_n 1, 1), (175, .aload 4, 2), (177, .iconst 3, 1), (178, .iload 5, 2), (180, .imul, 1), (181, .iconst 2, 1), (182, .isub, 1), (183, .iaload, 1), (184, .invokestatic 79, 3), (187, .ifCond .eq 6, 3), (190, .aload 4, 2)] (cX11_met.data.toList.drop 165) 165 = true := by decide +kernel
def dc_cX11_met_dX11_met_165_7 := zw_16 db_cX11_met_dX11_met_165_7
def dX11_met_165 := dc_cX11_met_dX11_met_165_7.1
def dX11_met_166 := dc_cX11_met_dX11_met_165_7.2.1
def dX11_met_169 := dc_cX11_met_dX11_met_165_7.2.2.1
def dX11_met_170 := dc_cX11_met_dX11_met_165_7.2.2.2.1
def dX11_met_173 := dc_cX11_met_dX11_met_165_7.2.2.2.2.1
def dX11_met_174 := dc_cX11_met_dX11_met_165_7.2.2.2.2.2.1
def dX11_met_175 := dc_cX11_met_dX11_met_165_7.2.2.2.2.2.2.1
def dX11_met_177 := dc_cX11_met_dX11_met_165_7.2.2.2.2.2.2.2.1
def dX11_met_178 := dc_cX11_met_dX11_met_165_7.2.2.2.2.2.2.2.2.1
def dX11_met_180 := dc_cX11_met_dX11_met_165_7.2.2.2.2.2.2.2.2.2.1
def dX11_met_181 := dc_cX11_met_dX11_met_165_7.2.2.2.2.2.2.2.2.2.2.1
def dX11_met_182 := dc_cX11_met_dX11_met_165_7.2.2.2.2.2.2.2.2.2.2.2.1
def dX11_met_183 := dc_cX11_met_dX11_met_165_7.2.2.2.2.2.2.2.2.2.2.2.2.1
def dX11_met_184 := dc_cX11_met_dX11_met_165_7.2.2.2.2.2.2.2.2.2.2.2.2.2.1
def dX11_met_187 := dc_cX11_met_dX11_met_165_7.2.2.2.2.2.2.2.2.2.2.2.2.2.2.1
def dX11_met_190 := dc_cX11_met_dX11_met_165_7.2.2.2.2.2.2.2.2.2.2.2.2.2.2.2
set_option maxRecDepth 100000 in
theorem db_cX11_met_dX11_met_192_8 : zw [(192, .areturn, 1), (193, .iinc 7 1, 3), (196, .goto (-169), 3), (199, .iinc 6 1, 3), (202, .goto (-185), 3), (205, .aload 4, 2), (207, .areturn, 1)] (cX11_met.data.toList.drop 192) 192 = true := by decide +kernel
def dc_cX11_met_dX11_met_192_8 := zw_7 db_cX11_met_dX11_met_192_8
def dX11_met_192 := dc_cX11_met_dX11_met_192_8.1
def dX11_met_193 := dc_cX11_met_dX11_met_192_8.2.1
def dX11_met_196 := dc_cX11_met_dX11_met_192_8.2.2.1
def dX11_met_199 := dc_cX11_met_dX11_met_192_8.2.2.2.1
def dX11_met_202 := dc_cX11_met_dX11_met_192_8.2.2.2.2.1
def dX11_met_205 := dc_cX11_met_dX11_met_192_8.2.2.2.2.2.1
def dX11_met_207 := dc_cX11_met_dX11_met_192_8.2.2.2.2.2.2
set_option maxRecDepth 100000 in
theorem db_cX11_pairsOf_dX11_pairsOf_0_0 : zw [(0, .aload_n 0, 1), (1, .iload_n 1, 1), (2, .invokevirtual 70, 3), (5, .astore_n 3, 1), (6, .aload_n 0, 1), (7, .iload_n 2, 1), (8, .invokevirtual 70, 3), (11, .astore 4, 2), (13, .aload_n 3, 1), (14, .ifnull 8, 3), (17, .aload 4, 2), (19, .ifnonnull 5, 3), (22, .aconst_null, 1), (23, .areturn, 1), (24, .aload_n 3, 1), (25, .aload 4, 2)] (cX11_pairsOf.data.toList.drop 0) 0 = true := by decide +kernel
def dc_cX11_pairsOf_dX11_pairsOf_0_0 := zw_16 db_cX11_pairsOf_dX11_pairsOf_0_0
def dX11_pairsOf_0 := dc_cX11_pairsOf_dX11_pairsOf_0_0.1
def dX11_pairsOf_1 := dc_cX11_pairsOf_dX11_pairsOf_0_0.2.1
def dX11_pairsOf_2 := dc_cX11_pairsOf_dX11_pairsOf_0_0.2.2.1
def dX11_pairsOf_5 := dc_cX11_pairsOf_dX11_pairsOf_0_0.2.2.2.1
def dX11_pairsOf_6 := dc_cX11_pairsOf_dX11_pairsOf_0_0.2.2.2.2.1
def dX11_pairsOf_7 := dc_cX11_pairsOf_dX11_pairsOf_0_0.2.2.2.2.2.1
def dX11_pairsOf_8 := dc_cX11_pairsOf_dX11_pairsOf_0_0.2.2.2.2.2.2.1
def dX11_pairsOf_11 := dc_cX11_pairsOf_dX11_pairsOf_0_0.2.2.2.2.2.2.2.1
def dX11_pairsOf_13 := dc_cX11_pairsOf_dX11_pairsOf_0_0.2.2.2.2.2.2.2.2.1
def dX11_pairsOf_14 := dc_cX11_pairsOf_dX11_pairsOf_0_0.2.2.2.2.2.2.2.2.2.1
def dX11_pairsOf_17 := dc_cX11_pairsOf_dX11_pairsOf_0_0.2.2.2.2.2.2.2.2.2.2.1
def dX11_pairsOf_19 := dc_cX11_pairsOf_dX11_pairsOf_0_0.2.2.2.2.2.2.2.2.2.2.2.1
def dX11_pairsOf_22 := dc_cX11_pairsOf_dX11_pairsOf_0_0.2.2.2.2.2.2.2.2.2.2.2.2.1
def dX11_pairsOf_23 := dc_cX11_pairsOf_dX11_pairsOf_0_0.2.2.2.2.2.2.2.2.2.2.2.2.2.1
def dX11_pairsOf_24 := dc_cX11_pairsOf_dX11_pairsOf_0_0.2.2.2.2.2.2.2.2.2.2.2.2.2.2.1
def dX11_pairsOf_25 := dc_cX11_pairsOf_dX11_pairsOf_0_0.2.2.2.2.2.2.2.2.2.2.2.2.2.2.2
set_option maxRecDepth 100000 in
theorem db_cX11_pairsOf_dX11_pairsOf_27_1 : zw [(27, .sipush 200, 3), (30, .iconst 1, 1), (31, .invokestatic 83, 3), (34, .astore 5, 2), (36, .aload 5, 2), (38, .iconst 0, 1), (39, .iaload, 1), (40, .sipush 200, 3), (43, .if_icmp .le 7, 3), (46, .aconst_null, 1), (47, .goto 5, 3), (50, .aload 5, 2), (52, .areturn, 1)] (cX11_pairsOf.data.toList.drop 27) 27 = true := by decide +kernel
def dc_cX11_pairsOf_dX11_pairsOf_27_1 := zw_13 db_cX11_pairsOf_dX11_pairsOf_27_1
def dX11_pairsOf_27 := dc_cX11_pairsOf_dX11_pairsOf_27_1.1
def dX11_pairsOf_30 := dc_cX11_pairsOf_dX11_pairsOf_27_1.2.1
def dX11_pairsOf_31 := dc_cX11_pairsOf_dX11_pairsOf_27_1.2.2.1
def dX11_pairsOf_34 := dc_cX11_pairsOf_dX11_pairsOf_27_1.2.2.2.1
def dX11_pairsOf_36 := dc_cX11_pairsOf_dX11_pairsOf_27_1.2.2.2.2.1
def dX11_pairsOf_38 := dc_cX11_pairsOf_dX11_pairsOf_27_1.2.2.2.2.2.1
def dX11_pairsOf_39 := dc_cX11_pairsOf_dX11_pairsOf_27_1.2.2.2.2.2.2.1
def dX11_pairsOf_40 := dc_cX11_pairsOf_dX11_pairsOf_27_1.2.2.2.2.2.2.2.1
def dX11_pairsOf_43 := dc_cX11_pairsOf_dX11_pairsOf_27_1.2.2.2.2.2.2.2.2.1
def dX11_pairsOf_46 := dc_cX11_pairsOf_dX11_pairsOf_27_1.2.2.2.2.2.2.2.2.2.1
def dX11_pairsOf_47 := dc_cX11_pairsOf_dX11_pairsOf_27_1.2.2.2.2.2.2.2.2.2.2.1
def dX11_pairsOf_50 := dc_cX11_pairsOf_dX11_pairsOf_27_1.2.2.2.2.2.2.2.2.2.2.2.1
def dX11_pairsOf_52 := dc_cX11_pairsOf_dX11_pairsOf_27_1.2.2.2.2.2.2.2.2.2.2.2.2
set_option maxRecDepth 100000 in
theorem db_cX11_isApart_dX11_isApart_0_0 : zw [(0, .aload_n 0, 1), (1, .iload_n 1, 1), (2, .invokevirtual 70, 3), (5, .aload_n 0, 1), (6, .iload_n 2, 1), (7, .invokevirtual 70, 3), (10, .aload_n 3, 1), (11, .iconst 3, 1), (12, .aload_n 3, 1), (13, .iconst 0, 1), (14, .iaload, 1), (15, .imul, 1), (16, .iconst 2, 1), (17, .isub, 1), (18, .iaload, 1), (19, .invokestatic 79, 3)] (cX11_isApart.data.toList.drop 0) 0 = true := by decide +kernel
def dc_cX11_isApart_dX11_isApart_0_0 := zw_16 db_cX11_isApart_dX11_isApart_0_0
def dX11_isApart_0 := dc_cX11_isApart_dX11_isApart_0_0.1
def dX11_isApart_1 := dc_cX11_isApart_dX11_isApart_0_0.2.1
def dX11_isApart_2 := dc_cX11_isApart_dX11_isApart_0_0.2.2.1
def dX11_isApart_5 := dc_cX11_isApart_dX11_isApart_0_0.2.2.2.1
def dX11_isApart_6 := dc_cX11_isApart_dX11_isApart_0_0.2.2.2.2.1
def dX11_isApart_7 := dc_cX11_isApart_dX11_isApart_0_0.2.2.2.2.2.1
def dX11_isApart_10 := dc_cX11_isApart_dX11_isApart_0_0.2.2.2.2.2.2.1
def dX11_isApart_11 := dc_cX11_isApart_dX11_isApart_0_0.2.2.2.2.2.2.2.1
def dX11_isApart_12 := dc_cX11_isApart_dX11_isApart_0_0.2.2.2.2.2.2.2.2.1
def dX11_isApart_13 := dc_cX11_isApart_dX11_isApart_0_0.2.2.2.2.2.2.2.2.2.1
def dX11_isApart_14 := dc_cX11_isApart_dX11_isApart_0_0.2.2.2.2.2.2.2.2.2.2.1
def dX11_isApart_15 := dc_cX11_isApart_dX11_isApart_0_0.2.2.2.2.2.2.2.2.2.2.2.1
def dX11_isApart_16 := dc_cX11_isApart_dX11_isApart_0_0.2.2.2.2.2.2.2.2.2.2.2.2.1
def dX11_isApart_17 := dc_cX11_isApart_dX11_isApart_0_0.2.2.2.2.2.2.2.2.2.2.2.2.2.1
def dX11_isApart_18 := dc_cX11_isApart_dX11_isApart_0_0.2.2.2.2.2.2.2.2.2.2.2.2.2.2.1
def dX11_isApart_19 := dc_cX11_isApart_dX11_isApart_0_0.2.2.2.2.2.2.2.2.2.2.2.2.2.2.2
set_option maxRecDepth 100000 in
theorem db_cX11_isApart_dX11_isApart_22_1 : zw [(22, .ireturn, 1)] (cX11_isApart.data.toList.drop 22) 22 = true := by decide +kernel
def dX11_isApart_22 := zw_1 db_cX11_isApart_dX11_isApart_22_1
set_option maxRecDepth 100000 in
theorem db_cX11_both_dX11_both_0_0 : zw [(0, .aload_n 0, 1), (1, .iload_n 1, 1), (2, .invokevirtual 70, 3), (5, .astore 4, 2), (7, .aload_n 0, 1), (8, .iload_n 2, 1), (9, .invokevirtual 70, 3), (12, .astore 5, 2), (14, .aload 4, 2), (16, .ifnull 8, 3), (19, .aload 5, 2), (21, .ifnonnull 5, 3), (24, .aconst_null, 1), (25, .areturn, 1), (26, .aload 4, 2), (28, .aload 5, 2)] (cX11_both.data.toList.drop 0) 0 = true := by decide +kernel
def dc_cX11_both_dX11_both_0_0 := zw_16 db_cX11_both_dX11_both_0_0
def dX11_both_0 := dc_cX11_both_dX11_both_0_0.1
def dX11_both_1 := dc_cX11_both_dX11_both_0_0.2.1
def dX11_both_2 := dc_cX11_both_dX11_both_0_0.2.2.1
def dX11_both_5 := dc_cX11_both_dX11_both_0_0.2.2.2.1
def dX11_both_7 := dc_cX11_both_dX11_both_0_0.2.2.2.2.1
def dX11_both_8 := dc_cX11_both_dX11_both_0_0.2.2.2.2.2.1
def dX11_both_9 := dc_cX11_both_dX11_both_0_0.2.2.2.2.2.2.1
def dX11_both_12 := dc_cX11_both_dX11_both_0_0.2.2.2.2.2.2.2.1
def dX11_both_14 := dc_cX11_both_dX11_both_0_0.2.2.2.2.2.2.2.2.1
def dX11_both_16 := dc_cX11_both_dX11_both_0_0.2.2.2.2.2.2.2.2.2.1
def dX11_both_19 := dc_cX11_both_dX11_both_0_0.2.2.2.2.2.2.2.2.2.2.1
def dX11_both_21 := dc_cX11_both_dX11_both_0_0.2.2.2.2.2.2.2.2.2.2.2.1
def dX11_both_24 := dc_cX11_both_dX11_both_0_0.2.2.2.2.2.2.2.2.2.2.2.2.1
def dX11_both_25 := dc_cX11_both_dX11_both_0_0.2.2.2.2.2.2.2.2.2.2.2.2.2.1
def dX11_both_26 := dc_cX11_both_dX11_both_0_0.2.2.2.2.2.2.2.2.2.2.2.2.2.2.1
def dX11_both_28 := dc_cX11_both_dX11_both_0_0.2.2.2.2.2.2.2.2.2.2.2.2.2.2.2
set_option maxRecDepth 100000 in
theorem db_cX11_both_dX11_both_30_1 : zw [(30, .bipush 32, 2), (32, .iconst 0, 1), (33, .invokestatic 83, 3), (36, .astore 6, 2), (38, .aload 6, 2), (40, .iconst 0, 1), (41, .iaload, 1), (42, .bipush 32, 2), (44, .if_icmp .le 5, 3), (47, .aconst_null, 1), (48, .areturn, 1), (49, .iconst 4, 1), (50, .aload 6, 2), (52, .iconst 0, 1), (53, .iaload, 1), (54, .imul, 1)] (cX11_both.data.toList.drop 30) 30 = true := by decide +kernel
def dc_cX11_both_dX11_both_30_1 := zw_16 db_cX11_both_dX11_both_30_1
def dX11_both_30 := dc_cX11_both_dX11_both_30_1.1
def dX11_both_32 := dc_cX11_both_dX11_both_30_1.2.1
def dX11_both_33 := dc_cX11_both_dX11_both_30_1.2.2.1
def dX11_both_36 := dc_cX11_both_dX11_both_30_1.2.2.2.1
def dX11_both_38 := dc_cX11_both_dX11_both_30_1.2.2.2.2.1
def dX11_both_40 := dc_cX11_both_dX11_both_30_1.2.2.2.2.2.1
def dX11_both_41 := dc_cX11_both_dX11_both_30_1.2.2.2.2.2.2.1
def dX11_both_42 := dc_cX11_both_dX11_both_30_1.2.2.2.2.2.2.2.1
def dX11_both_44 := dc_cX11_both_dX11_both_30_1.2.2.2.2.2.2.2.2.1
def dX11_both_47 := dc_cX11_both_dX11_both_30_1.2.2.2.2.2.2.2.2.2.1
def dX11_both_48 := dc_cX11_both_dX11_both_30_1.2.2.2.2.2.2.2.2.2.2.1
def dX11_both_49 := dc_cX11_both_dX11_both_30_1.2.2.2.2.2.2.2.2.2.2.2.1
def dX11_both_50 := dc_cX11_both_dX11_both_30_1.2.2.2.2.2.2.2.2.2.2.2.2.1
def dX11_both_52 := dc_cX11_both_dX11_both_30_1.2.2.2.2.2.2.2.2.2.2.2.2.2.1
def dX11_both_53 := dc_cX11_both_dX11_both_30_1.2.2.2.2.2.2.2.2.2.2.2.2.2.2.1
def dX11_both_54 := dc_cX11_both_dX11_both_30_1.2.2.2.2.2.2.2.2.2.2.2.2.2.2.2
theorem dX11_both_55 : decode cX11_both 55 = .ok (.newarray .int, 2) := by decide +kernel
set_option maxRecDepth 100000 in
theorem db_cX11_both_dX11_both_57_2 : zw [(57, .astore 7, 2), (59, .iconst 0, 1), (60, .istore 8, 2), (62, .iload 8, 2), (64, .aload 6, 2), (66, .iconst 0, 1), (67, .iaload, 1), (68, .if_icmp .ge 204, 3), (71, .aload 6, 2), (73, .iconst 3, 1), (74, .iload 8, 2), (76, .imul, 1), (77, .iconst 1, 1), (78, .iadd, 1), (79, .iaload, 1), (80, .bipush 32, 2)] (cX11_both.data.toList.drop 57) 57 = true := by decide +kernel
def dc_cX11_both_dX11_both_57_2 := zw_16 db_cX11_both_dX11_both_57_2
def dX11_both_57 := dc_cX11_both_dX11_both_57_2.1
def dX11_both_59 := dc_cX11_both_dX11_both_57_2.2.1
def dX11_both_60 := dc_cX11_both_dX11_both_57_2.2.2.1
def dX11_both_62 := dc_cX11_both_dX11_both_57_2.2.2.2.1
def dX11_both_64 := dc_cX11_both_dX11_both_57_2.2.2.2.2.1
def dX11_both_66 := dc_cX11_both_dX11_both_57_2.2.2.2.2.2.1
def dX11_both_67 := dc_cX11_both_dX11_both_57_2.2.2.2.2.2.2.1
def dX11_both_68 := dc_cX11_both_dX11_both_57_2.2.2.2.2.2.2.2.1
def dX11_both_71 := dc_cX11_both_dX11_both_57_2.2.2.2.2.2.2.2.2.1
def dX11_both_73 := dc_cX11_both_dX11_both_57_2.2.2.2.2.2.2.2.2.2.1
def dX11_both_74 := dc_cX11_both_dX11_both_57_2.2.2.2.2.2.2.2.2.2.2.1
def dX11_both_76 := dc_cX11_both_dX11_both_57_2.2.2.2.2.2.2.2.2.2.2.2.1
def dX11_both_77 := dc_cX11_both_dX11_both_57_2.2.2.2.2.2.2.2.2.2.2.2.2.1
def dX11_both_78 := dc_cX11_both_dX11_both_57_2.2.2.2.2.2.2.2.2.2.2.2.2.2.1
def dX11_both_79 := dc_cX11_both_dX11_both_57_2.2.2.2.2.2.2.2.2.2.2.2.2.2.2.1
def dX11_both_80 := dc_cX11_both_dX11_both_57_2.2.2.2.2.2.2.2.2.2.2.2.2.2.2.2
set_option maxRecDepth 100000 in
theorem db_cX11_both_dX11_both_82_3 : zw [(82, .idiv, 1), (83, .istore 9, 2), (85, .aload 6, 2), (87, .iconst 3, 1), (88, .iload 8, 2), (90, .imul, 1), (91, .iconst 1, 1), (92, .iadd, 1), (93, .iaload, 1), (94, .bipush 32, 2), (96, .irem, 1), (97, .istore 10, 2), (99, .aload 4, 2), (101, .iconst 4, 1), (102, .iload 9, 2), (104, .imul, 1)] (cX11_both.data.toList.drop 82) 82 = true := by decide +kernel
def dc_cX11_both_dX11_both_82_3 := zw_16 db_cX11_both_dX11_both_82_3
def dX11_both_82 := dc_cX11_both_dX11_both_82_3.1
def dX11_both_83 := dc_cX11_both_dX11_both_82_3.2.1
def dX11_both_85 := dc_cX11_both_dX11_both_82_3.2.2.1
def dX11_both_87 := dc_cX11_both_dX11_both_82_3.2.2.2.1
def dX11_both_88 := dc_cX11_both_dX11_both_82_3.2.2.2.2.1
def dX11_both_90 := dc_cX11_both_dX11_both_82_3.2.2.2.2.2.1
def dX11_both_91 := dc_cX11_both_dX11_both_82_3.2.2.2.2.2.2.1
def dX11_both_92 := dc_cX11_both_dX11_both_82_3.2.2.2.2.2.2.2.1
def dX11_both_93 := dc_cX11_both_dX11_both_82_3.2.2.2.2.2.2.2.2.1
def dX11_both_94 := dc_cX11_both_dX11_both_82_3.2.2.2.2.2.2.2.2.2.1
def dX11_both_96 := dc_cX11_both_dX11_both_82_3.2.2.2.2.2.2.2.2.2.2.1
def dX11_both_97 := dc_cX11_both_dX11_both_82_3.2.2.2.2.2.2.2.2.2.2.2.1
def dX11_both_99 := dc_cX11_both_dX11_both_82_3.2.2.2.2.2.2.2.2.2.2.2.2.1
def dX11_both_101 := dc_cX11_both_dX11_both_82_3.2.2.2.2.2.2.2.2.2.2.2.2.2.1
def dX11_both_102 := dc_cX11_both_dX11_both_82_3.2.2.2.2.2.2.2.2.2.2.2.2.2.2.1
def dX11_both_104 := dc_cX11_both_dX11_both_82_3.2.2.2.2.2.2.2.2.2.2.2.2.2.2.2
set_option maxRecDepth 100000 in
theorem db_cX11_both_dX11_both_105_4 : zw [(105, .iconst 3, 1), (106, .iadd, 1), (107, .iaload, 1), (108, .istore 11, 2), (110, .aload 5, 2), (112, .iconst 4, 1), (113, .iload 10, 2), (115, .imul, 1), (116, .iconst 3, 1), (117, .iadd, 1), (118, .iaload, 1), (119, .istore 12, 2), (121, .aload 7, 2), (123, .iconst 4, 1), (124, .iload 8, 2), (126, .imul, 1)] (cX11_both.data.toList.drop 105) 105 = true := by decide +kernel
def dc_cX11_both_dX11_both_105_4 := zw_16 db_cX11_both_dX11_both_105_4
def dX11_both_105 := dc_cX11_both_dX11_both_105_4.1
def dX11_both_106 := dc_cX11_both_dX11_both_105_4.2.1
def dX11_both_107 := dc_cX11_both_dX11_both_105_4.2.2.1
def dX11_both_108 := dc_cX11_both_dX11_both_105_4.2.2.2.1
def dX11_both_110 := dc_cX11_both_dX11_both_105_4.2.2.2.2.1
def dX11_both_112 := dc_cX11_both_dX11_both_105_4.2.2.2.2.2.1
def dX11_both_113 := dc_cX11_both_dX11_both_105_4.2.2.2.2.2.2.1
def dX11_both_115 := dc_cX11_both_dX11_both_105_4.2.2.2.2.2.2.2.1
def dX11_both_116 := dc_cX11_both_dX11_both_105_4.2.2.2.2.2.2.2.2.1
def dX11_both_117 := dc_cX11_both_dX11_both_105_4.2.2.2.2.2.2.2.2.2.1
def dX11_both_118 := dc_cX11_both_dX11_both_105_4.2.2.2.2.2.2.2.2.2.2.1
def dX11_both_119 := dc_cX11_both_dX11_both_105_4.2.2.2.2.2.2.2.2.2.2.2.1
def dX11_both_121 := dc_cX11_both_dX11_both_105_4.2.2.2.2.2.2.2.2.2.2.2.2.1
def dX11_both_123 := dc_cX11_both_dX11_both_105_4.2.2.2.2.2.2.2.2.2.2.2.2.2.1
def dX11_both_124 := dc_cX11_both_dX11_both_105_4.2.2.2.2.2.2.2.2.2.2.2.2.2.2.1
def dX11_both_126 := dc_cX11_both_dX11_both_105_4.2.2.2.2.2.2.2.2.2.2.2.2.2.2.2
set_option maxRecDepth 100000 in
theorem db_cX11_both_dX11_both_127_5 : zw [(127, .iconst 3, 1), (128, .iadd, 1), (129, .iload_n 3, 1), (130, .ifCond .ne 13, 3), (133, .iload 11, 2), (135, .iload 12, 2), (137, .invokestatic 87, 3), (140, .goto 45, 3), (143, .iload_n 3, 1), (144, .iconst 1, 1), (145, .if_icmp .ne 11, 3), (148, .iload 11, 2), (150, .iload 12, 2), (152, .imul, 1), (153, .goto 32, 3), (156, .iload_n 3, 1)] (cX11_both.data.toList.drop 127) 127 = true := by decide +kernel
def dc_cX11_both_dX11_both_127_5 := zw_16 db_cX11_both_dX11_both_127_5
def dX11_both_127 := dc_cX11_both_dX11_both_127_5.1
def dX11_both_128 := dc_cX11_both_dX11_both_127_5.2.1
def dX11_both_129 := dc_cX11_both_dX11_both_127_5.2.2.1
def dX11_both_130 := dc_cX11_both_dX11_both_127_5.2.2.2.1
def dX11_both_133 := dc_cX11_both_dX11_both_127_5.2.2.2.2.1
def dX11_both_135 := dc_cX11_both_dX11_both_127_5.2.2.2.2.2.1
def dX11_both_137 := dc_cX11_both_dX11_both_127_5.2.2.2.2.2.2.1
def dX11_both_140 := dc_cX11_both_dX11_both_127_5.2.2.2.2.2.2.2.1
def dX11_both_143 := dc_cX11_both_dX11_both_127_5.2.2.2.2.2.2.2.2.1
def dX11_both_144 := dc_cX11_both_dX11_both_127_5.2.2.2.2.2.2.2.2.2.1
def dX11_both_145 := dc_cX11_both_dX11_both_127_5.2.2.2.2.2.2.2.2.2.2.1
def dX11_both_148 := dc_cX11_both_dX11_both_127_5.2.2.2.2.2.2.2.2.2.2.2.1
def dX11_both_150 := dc_cX11_both_dX11_both_127_5.2.2.2.2.2.2.2.2.2.2.2.2.1
def dX11_both_152 := dc_cX11_both_dX11_both_127_5.2.2.2.2.2.2.2.2.2.2.2.2.2.1
def dX11_both_153 := dc_cX11_both_dX11_both_127_5.2.2.2.2.2.2.2.2.2.2.2.2.2.2.1
def dX11_both_156 := dc_cX11_both_dX11_both_127_5.2.2.2.2.2.2.2.2.2.2.2.2.2.2.2
set_option maxRecDepth 100000 in
theorem db_cX11_both_dX11_both_157_6 : zw [(157, .iconst 2, 1), (158, .if_icmp .ne 15, 3), (161, .iload 11, 2), (163, .iload 12, 2), (165, .isub, 1), (166, .iconst 0, 1), (167, .invokestatic 87, 3), (170, .goto 15, 3), (173, .iload 11, 2), (175, .iload 12, 2), (177, .if_icmp .ne 7, 3), (180, .iconst 0, 1), (181, .goto 4, 3), (184, .iconst 1, 1), (185, .iastore, 1), (186, .iconst 0, 1)] (cX11_both.data.toList.drop 157) 157 = true := by decide +kernel
def dc_cX11_both_dX11_both_157_6 := zw_16 db_cX11_both_dX11_both_157_6
def dX11_both_157 := dc_cX11_both_dX11_both_157_6.1
def dX11_both_158 := dc_cX11_both_dX11_both_157_6.2.1
def dX11_both_161 := dc_cX11_both_dX11_both_157_6.2.2.1
def dX11_both_163 := dc_cX11_both_dX11_both_157_6.2.2.2.1
def dX11_both_165 := dc_cX11_both_dX11_both_157_6.2.2.2.2.1
def dX11_both_166 := dc_cX11_both_dX11_both_157_6.2.2.2.2.2.1
def dX11_both_167 := dc_cX11_both_dX11_both_157_6.2.2.2.2.2.2.1
def dX11_both_170 := dc_cX11_both_dX11_both_157_6.2.2.2.2.2.2.2.1
def dX11_both_173 := dc_cX11_both_dX11_both_157_6.2.2.2.2.2.2.2.2.1
def dX11_both_175 := dc_cX11_both_dX11_both_157_6.2.2.2.2.2.2.2.2.2.1
def dX11_both_177 := dc_cX11_both_dX11_both_157_6.2.2.2.2.2.2.2.2.2.2.1
def dX11_both_180 := dc_cX11_both_dX11_both_157_6.2.2.2.2.2.2.2.2.2.2.2.1
def dX11_both_181 := dc_cX11_both_dX11_both_157_6.2.2.2.2.2.2.2.2.2.2.2.2.1
def dX11_both_184 := dc_cX11_both_dX11_both_157_6.2.2.2.2.2.2.2.2.2.2.2.2.2.1
def dX11_both_185 := dc_cX11_both_dX11_both_157_6.2.2.2.2.2.2.2.2.2.2.2.2.2.2.1
def dX11_both_186 := dc_cX11_both_dX11_both_157_6.2.2.2.2.2.2.2.2.2.2.2.2.2.2.2
set_option maxRecDepth 100000 in
theorem db_cX11_both_dX11_both_187_7 : zw [(187, .istore 13, 2), (189, .iload 13, 2), (191, .iconst 3, 1), (192, .if_icmp .ge 74, 3), (195, .aload 4, 2), (197, .iconst 4, 1), (198, .iload 9, 2), (200, .imul, 1), (201, .iload 13, 2), (203, .iadd, 1), (204, .iaload, 1), (205, .bipush 32, 2), (207, .imul, 1), (208, .aload 5, 2), (210, .iconst 4, 1), (211, .iload 10, 2)] (cX11_both.data.toList.drop 187) 187 = true := by decide +kernel
def dc_cX11_both_dX11_both_187_7 := zw_16 db_cX11_both_dX11_both_187_7
def dX11_both_187 := dc_cX11_both_dX11_both_187_7.1
def dX11_both_189 := dc_cX11_both_dX11_both_187_7.2.1
def dX11_both_191 := dc_cX11_both_dX11_both_187_7.2.2.1
def dX11_both_192 := dc_cX11_both_dX11_both_187_7.2.2.2.1
def dX11_both_195 := dc_cX11_both_dX11_both_187_7.2.2.2.2.1
def dX11_both_197 := dc_cX11_both_dX11_both_187_7.2.2.2.2.2.1
def dX11_both_198 := dc_cX11_both_dX11_both_187_7.2.2.2.2.2.2.1
def dX11_both_200 := dc_cX11_both_dX11_both_187_7.2.2.2.2.2.2.2.1
def dX11_both_201 := dc_cX11_both_dX11_both_187_7.2.2.2.2.2.2.2.2.1
def dX11_both_203 := dc_cX11_both_dX11_both_187_7.2.2.2.2.2.2.2.2.2.1
def dX11_both_204 := dc_cX11_both_dX11_both_187_7.2.2.2.2.2.2.2.2.2.2.1
def dX11_both_205 := dc_cX11_both_dX11_both_187_7.2.2.2.2.2.2.2.2.2.2.2.1
def dX11_both_207 := dc_cX11_both_dX11_both_187_7.2.2.2.2.2.2.2.2.2.2.2.2.1
def dX11_both_208 := dc_cX11_both_dX11_both_187_7.2.2.2.2.2.2.2.2.2.2.2.2.2.1
def dX11_both_210 := dc_cX11_both_dX11_both_187_7.2.2.2.2.2.2.2.2.2.2.2.2.2.2.1
def dX11_both_211 := dc_cX11_both_dX11_both_187_7.2.2.2.2.2.2.2.2.2.2.2.2.2.2.2
set_option maxRecDepth 100000 in
theorem db_cX11_both_dX11_both_213_8 : zw [(213, .imul, 1), (214, .iload 13, 2), (216, .iadd, 1), (217, .iaload, 1), (218, .iadd, 1), (219, .istore 14, 2), (221, .aload 6, 2), (223, .iconst 3, 1), (224, .aload 7, 2), (226, .iconst 4, 1), (227, .iload 8, 2), (229, .imul, 1), (230, .iload 13, 2), (232, .iadd, 1), (233, .iaload, 1), (234, .imul, 1)] (cX11_both.data.toList.drop 213) 213 = true := by decide +kernel
def dc_cX11_both_dX11_both_213_8 := zw_16 db_cX11_both_dX11_both_213_8
def dX11_both_213 := dc_cX11_both_dX11_both_213_8.1
def dX11_both_214 := dc_cX11_both_dX11_both_213_8.2.1
def dX11_both_216 := dc_cX11_both_dX11_both_213_8.2.2.1
def dX11_both_217 := dc_cX11_both_dX11_both_213_8.2.2.2.1
def dX11_both_218 := dc_cX11_both_dX11_both_213_8.2.2.2.2.1
def dX11_both_219 := dc_cX11_both_dX11_both_213_8.2.2.2.2.2.1
def dX11_both_221 := dc_cX11_both_dX11_both_213_8.2.2.2.2.2.2.1
def dX11_both_223 := dc_cX11_both_dX11_both_213_8.2.2.2.2.2.2.2.1
def dX11_both_224 := dc_cX11_both_dX11_both_213_8.2.2.2.2.2.2.2.2.1
def dX11_both_226 := dc_cX11_both_dX11_both_213_8.2.2.2.2.2.2.2.2.2.1
def dX11_both_227 := dc_cX11_both_dX11_both_213_8.2.2.2.2.2.2.2.2.2.2.1
def dX11_both_229 := dc_cX11_both_dX11_both_213_8.2.2.2.2.2.2.2.2.2.2.2.1
def dX11_both_230 := dc_cX11_both_dX11_both_213_8.2.2.2.2.2.2.2.2.2.2.2.2.1
def dX11_both_232 := dc_cX11_both_dX11_both_213_8.2.2.2.2.2.2.2.2.2.2.2.2.2.1
def dX11_both_233 := dc_cX11_both_dX11_both_213_8.2.2.2.2.2.2.2.2.2.2.2.2.2.2.1
def dX11_both_234 := dc_cX11_both_dX11_both_213_8.2.2.2.2.2.2.2.2.2.2.2.2.2.2.2
set_option maxRecDepth 100000 in
theorem db_cX11_both_dX11_both_235_9 : zw [(235, .iconst 1, 1), (236, .iadd, 1), (237, .iaload, 1), (238, .iload 14, 2), (240, .if_icmp .eq 20, 3), (243, .aload 7, 2), (245, .iconst 4, 1), (246, .iload 8, 2), (248, .imul, 1), (249, .iload 13, 2), (251, .iadd, 1), (252, .dup2, 1), (253, .iaload, 1), (254, .iconst 1, 1), (255, .iadd, 1), (256, .iastore, 1)] (cX11_both.data.toList.drop 235) 235 = true := by decide +kernel
def dc_cX11_both_dX11_both_235_9 := zw_16 db_cX11_both_dX11_both_235_9
def dX11_both_235 := dc_cX11_both_dX11_both_235_9.1
def dX11_both_236 := dc_cX11_both_dX11_both_235_9.2.1
def dX11_both_237 := dc_cX11_both_dX11_both_235_9.2.2.1
def dX11_both_238 := dc_cX11_both_dX11_both_235_9.2.2.2.1
def dX11_both_240 := dc_cX11_both_dX11_both_235_9.2.2.2.2.1
def dX11_both_243 := dc_cX11_both_dX11_both_235_9.2.2.2.2.2.1
def dX11_both_245 := dc_cX11_both_dX11_both_235_9.2.2.2.2.2.2.1
def dX11_both_246 := dc_cX11_both_dX11_both_235_9.2.2.2.2.2.2.2.1
def dX11_both_248 := dc_cX11_both_dX11_both_235_9.2.2.2.2.2.2.2.2.1
def dX11_both_249 := dc_cX11_both_dX11_both_235_9.2.2.2.2.2.2.2.2.2.1
def dX11_both_251 := dc_cX11_both_dX11_both_235_9.2.2.2.2.2.2.2.2.2.2.1
def dX11_both_252 := dc_cX11_both_dX11_both_235_9.2.2.2.2.2.2.2.2.2.2.2.1
def dX11_both_253 := dc_cX11_both_dX11_both_235_9.2.2.2.2.2.2.2.2.2.2.2.2.1
def dX11_both_254 := dc_cX11_both_dX11_both_235_9.2.2.2.2.2.2.2.2.2.2.2.2.2.1
def dX11_both_255 := dc_cX11_both_dX11_both_235_9.2.2.2.2.2.2.2.2.2.2.2.2.2.2.1
def dX11_both_256 := dc_cX11_both_dX11_both_235_9.2.2.2.2.2.2.2.2.2.2.2.2.2.2.2
set_option maxRecDepth 100000 in
theorem db_cX11_both_dX11_both_257_10 : zw [(257, .goto (-36), 3), (260, .iinc 13 1, 3), (263, .goto (-74), 3), (266, .iinc 8 1, 3), (269, .goto (-207), 3), (272, .aload 7, 2), (274, .areturn, 1)] (cX11_both.data.toList.drop 257) 257 = true := by decide +kernel
def dc_cX11_both_dX11_both_257_10 := zw_7 db_cX11_both_dX11_both_257_10
def dX11_both_257 := dc_cX11_both_dX11_both_257_10.1
def dX11_both_260 := dc_cX11_both_dX11_both_257_10.2.1
def dX11_both_263 := dc_cX11_both_dX11_both_257_10.2.2.1
def dX11_both_266 := dc_cX11_both_dX11_both_257_10.2.2.2.1
def dX11_both_269 := dc_cX11_both_dX11_both_257_10.2.2.2.2.1
def dX11_both_272 := dc_cX11_both_dX11_both_257_10.2.2.2.2.2.1
def dX11_both_274 := dc_cX11_both_dX11_both_257_10.2.2.2.2.2.2
set_option maxRecDepth 100000 in
theorem db_cX11_clear_dX11_clear_0_0 : zw [(0, .aload_n 0, 1), (1, .getfield 7, 3), (4, .iload_n 1, 1), (5, .iload_n 2, 1), (6, .iastore, 1), (7, .aload_n 0, 1), (8, .getfield 13, 3), (11, .iload_n 1, 1), (12, .iconst 1, 1), (13, .iastore, 1), (14, .aload_n 0, 1), (15, .getfield 16, 3), (18, .iload_n 1, 1), (19, .iconst 0, 1), (20, .iastore, 1), (21, .iconst 0, 1)] (cX11_clear.data.toList.drop 0) 0 = true := by decide +kernel
def dc_cX11_clear_dX11_clear_0_0 := zw_16 db_cX11_clear_dX11_clear_0_0
def dX11_clear_0 := dc_cX11_clear_dX11_clear_0_0.1
def dX11_clear_1 := dc_cX11_clear_dX11_clear_0_0.2.1
def dX11_clear_4 := dc_cX11_clear_dX11_clear_0_0.2.2.1
def dX11_clear_5 := dc_cX11_clear_dX11_clear_0_0.2.2.2.1
def dX11_clear_6 := dc_cX11_clear_dX11_clear_0_0.2.2.2.2.1
def dX11_clear_7 := dc_cX11_clear_dX11_clear_0_0.2.2.2.2.2.1
def dX11_clear_8 := dc_cX11_clear_dX11_clear_0_0.2.2.2.2.2.2.1
def dX11_clear_11 := dc_cX11_clear_dX11_clear_0_0.2.2.2.2.2.2.2.1
def dX11_clear_12 := dc_cX11_clear_dX11_clear_0_0.2.2.2.2.2.2.2.2.1
def dX11_clear_13 := dc_cX11_clear_dX11_clear_0_0.2.2.2.2.2.2.2.2.2.1
def dX11_clear_14 := dc_cX11_clear_dX11_clear_0_0.2.2.2.2.2.2.2.2.2.2.1
def dX11_clear_15 := dc_cX11_clear_dX11_clear_0_0.2.2.2.2.2.2.2.2.2.2.2.1
def dX11_clear_18 := dc_cX11_clear_dX11_clear_0_0.2.2.2.2.2.2.2.2.2.2.2.2.1
def dX11_clear_19 := dc_cX11_clear_dX11_clear_0_0.2.2.2.2.2.2.2.2.2.2.2.2.2.1
def dX11_clear_20 := dc_cX11_clear_dX11_clear_0_0.2.2.2.2.2.2.2.2.2.2.2.2.2.2.1
def dX11_clear_21 := dc_cX11_clear_dX11_clear_0_0.2.2.2.2.2.2.2.2.2.2.2.2.2.2.2
set_option maxRecDepth 100000 in
theorem db_cX11_clear_dX11_clear_22_1 : zw [(22, .istore_n 3, 1), (23, .iload_n 3, 1), (24, .bipush 21, 2), (26, .if_icmp .ge 23, 3), (29, .aload_n 0, 1), (30, .getfield 19, 3), (33, .iload_n 1, 1), (34, .iconst 0, 1), (35, .iconst 0, 1), (36, .invokestatic 36, 3), (39, .iload_n 3, 1), (40, .iadd, 1), (41, .iconst 0, 1), (42, .iastore, 1), (43, .iinc 3 1, 3), (46, .goto (-23), 3)] (cX11_clear.data.toList.drop 22) 22 = true := by decide +kernel
def dc_cX11_clear_dX11_clear_22_1 := zw_16 db_cX11_clear_dX11_clear_22_1
def dX11_clear_22 := dc_cX11_clear_dX11_clear_22_1.1
def dX11_clear_23 := dc_cX11_clear_dX11_clear_22_1.2.1
def dX11_clear_24 := dc_cX11_clear_dX11_clear_22_1.2.2.1
def dX11_clear_26 := dc_cX11_clear_dX11_clear_22_1.2.2.2.1
def dX11_clear_29 := dc_cX11_clear_dX11_clear_22_1.2.2.2.2.1
def dX11_clear_30 := dc_cX11_clear_dX11_clear_22_1.2.2.2.2.2.1
def dX11_clear_33 := dc_cX11_clear_dX11_clear_22_1.2.2.2.2.2.2.1
def dX11_clear_34 := dc_cX11_clear_dX11_clear_22_1.2.2.2.2.2.2.2.1
def dX11_clear_35 := dc_cX11_clear_dX11_clear_22_1.2.2.2.2.2.2.2.2.1
def dX11_clear_36 := dc_cX11_clear_dX11_clear_22_1.2.2.2.2.2.2.2.2.2.1
def dX11_clear_39 := dc_cX11_clear_dX11_clear_22_1.2.2.2.2.2.2.2.2.2.2.1
def dX11_clear_40 := dc_cX11_clear_dX11_clear_22_1.2.2.2.2.2.2.2.2.2.2.2.1
def dX11_clear_41 := dc_cX11_clear_dX11_clear_22_1.2.2.2.2.2.2.2.2.2.2.2.2.1
def dX11_clear_42 := dc_cX11_clear_dX11_clear_22_1.2.2.2.2.2.2.2.2.2.2.2.2.2.1
def dX11_clear_43 := dc_cX11_clear_dX11_clear_22_1.2.2.2.2.2.2.2.2.2.2.2.2.2.2.1
def dX11_clear_46 := dc_cX11_clear_dX11_clear_22_1.2.2.2.2.2.2.2.2.2.2.2.2.2.2.2
set_option maxRecDepth 100000 in
theorem db_cX11_clear_dX11_clear_49_2 : zw [(49, .return_, 1)] (cX11_clear.data.toList.drop 49) 49 = true := by decide +kernel
def dX11_clear_49 := zw_1 db_cX11_clear_dX11_clear_49_2
set_option maxRecDepth 100000 in
theorem db_cX11_begin_dX11_begin_0_0 : zw [(0, .aload_n 0, 1), (1, .iload_n 1, 1), (2, .invokestatic 93, 3), (5, .iload_n 2, 1), (6, .iconst 1, 1), (7, .bipush 7, 2), (9, .invokestatic 26, 3), (12, .invokevirtual 97, 3), (15, .ifCond .eq 5, 3), (18, .iconst 0, 1), (19, .ireturn, 1), (20, .aload_n 0, 1), (21, .iload_n 1, 1), (22, .invokevirtual 101, 3), (25, .istore_n 3, 1), (26, .aload_n 0, 1)] (cX11_begin.data.toList.drop 0) 0 = true := by decide +kernel
def dc_cX11_begin_dX11_begin_0_0 := zw_16 db_cX11_begin_dX11_begin_0_0
def dX11_begin_0 := dc_cX11_begin_dX11_begin_0_0.1
def dX11_begin_1 := dc_cX11_begin_dX11_begin_0_0.2.1
def dX11_begin_2 := dc_cX11_begin_dX11_begin_0_0.2.2.1
def dX11_begin_5 := dc_cX11_begin_dX11_begin_0_0.2.2.2.1
def dX11_begin_6 := dc_cX11_begin_dX11_begin_0_0.2.2.2.2.1
def dX11_begin_7 := dc_cX11_begin_dX11_begin_0_0.2.2.2.2.2.1
def dX11_begin_9 := dc_cX11_begin_dX11_begin_0_0.2.2.2.2.2.2.1
def dX11_begin_12 := dc_cX11_begin_dX11_begin_0_0.2.2.2.2.2.2.2.1
def dX11_begin_15 := dc_cX11_begin_dX11_begin_0_0.2.2.2.2.2.2.2.2.1
def dX11_begin_18 := dc_cX11_begin_dX11_begin_0_0.2.2.2.2.2.2.2.2.2.1
def dX11_begin_19 := dc_cX11_begin_dX11_begin_0_0.2.2.2.2.2.2.2.2.2.2.1
def dX11_begin_20 := dc_cX11_begin_dX11_begin_0_0.2.2.2.2.2.2.2.2.2.2.2.1
def dX11_begin_21 := dc_cX11_begin_dX11_begin_0_0.2.2.2.2.2.2.2.2.2.2.2.2.1
def dX11_begin_22 := dc_cX11_begin_dX11_begin_0_0.2.2.2.2.2.2.2.2.2.2.2.2.2.1
def dX11_begin_25 := dc_cX11_begin_dX11_begin_0_0.2.2.2.2.2.2.2.2.2.2.2.2.2.2.1
def dX11_begin_26 := dc_cX11_begin_dX11_begin_0_0.2.2.2.2.2.2.2.2.2.2.2.2.2.2.2
set_option maxRecDepth 100000 in
theorem db_cX11_begin_dX11_begin_27_1 : zw [(27, .iload_n 1, 1), (28, .iload_n 2, 1), (29, .invokevirtual 104, 3), (32, .aload_n 0, 1), (33, .iload_n 3, 1), (34, .invokevirtual 108, 3), (37, .ireturn, 1)] (cX11_begin.data.toList.drop 27) 27 = true := by decide +kernel
def dc_cX11_begin_dX11_begin_27_1 := zw_7 db_cX11_begin_dX11_begin_27_1
def dX11_begin_27 := dc_cX11_begin_dX11_begin_27_1.1
def dX11_begin_28 := dc_cX11_begin_dX11_begin_27_1.2.1
def dX11_begin_29 := dc_cX11_begin_dX11_begin_27_1.2.2.1
def dX11_begin_32 := dc_cX11_begin_dX11_begin_27_1.2.2.2.1
def dX11_begin_33 := dc_cX11_begin_dX11_begin_27_1.2.2.2.2.1
def dX11_begin_34 := dc_cX11_begin_dX11_begin_27_1.2.2.2.2.2.1
def dX11_begin_37 := dc_cX11_begin_dX11_begin_27_1.2.2.2.2.2.2
set_option maxRecDepth 100000 in
theorem db_cX11_isNoArrow_dX11_isNoArrow_0_0 : zw [(0, .aload_n 0, 1), (1, .iload_n 1, 1), (2, .invokestatic 93, 3), (5, .ifCond .eq 26, 3), (8, .aload_n 0, 1), (9, .iload_n 1, 1), (10, .iload_n 2, 1), (11, .invokevirtual 111, 3), (14, .ifCond .eq 17, 3), (17, .aload_n 0, 1), (18, .iload_n 1, 1), (19, .iload 4, 2), (21, .invokevirtual 111, 3), (24, .ifCond .eq 7, 3), (27, .iconst 1, 1), (28, .goto 4, 3)] (cX11_isNoArrow.data.toList.drop 0) 0 = true := by decide +kernel
def dc_cX11_isNoArrow_dX11_isNoArrow_0_0 := zw_16 db_cX11_isNoArrow_dX11_isNoArrow_0_0
def dX11_isNoArrow_0 := dc_cX11_isNoArrow_dX11_isNoArrow_0_0.1
def dX11_isNoArrow_1 := dc_cX11_isNoArrow_dX11_isNoArrow_0_0.2.1
def dX11_isNoArrow_2 := dc_cX11_isNoArrow_dX11_isNoArrow_0_0.2.2.1
def dX11_isNoArrow_5 := dc_cX11_isNoArrow_dX11_isNoArrow_0_0.2.2.2.1
def dX11_isNoArrow_8 := dc_cX11_isNoArrow_dX11_isNoArrow_0_0.2.2.2.2.1
def dX11_isNoArrow_9 := dc_cX11_isNoArrow_dX11_isNoArrow_0_0.2.2.2.2.2.1
def dX11_isNoArrow_10 := dc_cX11_isNoArrow_dX11_isNoArrow_0_0.2.2.2.2.2.2.1
def dX11_isNoArrow_11 := dc_cX11_isNoArrow_dX11_isNoArrow_0_0.2.2.2.2.2.2.2.1
def dX11_isNoArrow_14 := dc_cX11_isNoArrow_dX11_isNoArrow_0_0.2.2.2.2.2.2.2.2.1
def dX11_isNoArrow_17 := dc_cX11_isNoArrow_dX11_isNoArrow_0_0.2.2.2.2.2.2.2.2.2.1
def dX11_isNoArrow_18 := dc_cX11_isNoArrow_dX11_isNoArrow_0_0.2.2.2.2.2.2.2.2.2.2.1
def dX11_isNoArrow_19 := dc_cX11_isNoArrow_dX11_isNoArrow_0_0.2.2.2.2.2.2.2.2.2.2.2.1
def dX11_isNoArrow_21 := dc_cX11_isNoArrow_dX11_isNoArrow_0_0.2.2.2.2.2.2.2.2.2.2.2.2.1
def dX11_isNoArrow_24 := dc_cX11_isNoArrow_dX11_isNoArrow_0_0.2.2.2.2.2.2.2.2.2.2.2.2.2.1
def dX11_isNoArrow_27 := dc_cX11_isNoArrow_dX11_isNoArrow_0_0.2.2.2.2.2.2.2.2.2.2.2.2.2.2.1
def dX11_isNoArrow_28 := dc_cX11_isNoArrow_dX11_isNoArrow_0_0.2.2.2.2.2.2.2.2.2.2.2.2.2.2.2
set_option maxRecDepth 100000 in
theorem db_cX11_isNoArrow_dX11_isNoArrow_31_1 : zw [(31, .iconst 0, 1), (32, .iload_n 3, 1), (33, .iconst 0, 1), (34, .iconst 2, 1), (35, .invokestatic 26, 3), (38, .invokevirtual 97, 3), (41, .ireturn, 1)] (cX11_isNoArrow.data.toList.drop 31) 31 = true := by decide +kernel
def dc_cX11_isNoArrow_dX11_isNoArrow_31_1 := zw_7 db_cX11_isNoArrow_dX11_isNoArrow_31_1
def dX11_isNoArrow_31 := dc_cX11_isNoArrow_dX11_isNoArrow_31_1.1
def dX11_isNoArrow_32 := dc_cX11_isNoArrow_dX11_isNoArrow_31_1.2.1
def dX11_isNoArrow_33 := dc_cX11_isNoArrow_dX11_isNoArrow_31_1.2.2.1
def dX11_isNoArrow_34 := dc_cX11_isNoArrow_dX11_isNoArrow_31_1.2.2.2.1
def dX11_isNoArrow_35 := dc_cX11_isNoArrow_dX11_isNoArrow_31_1.2.2.2.2.1
def dX11_isNoArrow_38 := dc_cX11_isNoArrow_dX11_isNoArrow_31_1.2.2.2.2.2.1
def dX11_isNoArrow_41 := dc_cX11_isNoArrow_dX11_isNoArrow_31_1.2.2.2.2.2.2
set_option maxRecDepth 100000 in
theorem db_cX11_arrow_dX11_arrow_0_0 : zw [(0, .aload_n 0, 1), (1, .iload_n 1, 1), (2, .iload_n 2, 1), (3, .iload_n 3, 1), (4, .iload 4, 2), (6, .invokevirtual 115, 3), (9, .ifCond .eq 5, 3), (12, .iconst 0, 1), (13, .ireturn, 1), (14, .iload_n 1, 1), (15, .iload_n 2, 1), (16, .iload_n 3, 1), (17, .invokestatic 36, 3), (20, .istore 6, 2), (22, .aload_n 0, 1), (23, .getfield 19, 3)] (cX11_arrow.data.toList.drop 0) 0 = true := by decide +kernel
def dc_cX11_arrow_dX11_arrow_0_0 := zw_16 db_cX11_arrow_dX11_arrow_0_0
def dX11_arrow_0 := dc_cX11_arrow_dX11_arrow_0_0.1
def dX11_arrow_1 := dc_cX11_arrow_dX11_arrow_0_0.2.1
def dX11_arrow_2 := dc_cX11_arrow_dX11_arrow_0_0.2.2.1
def dX11_arrow_3 := dc_cX11_arrow_dX11_arrow_0_0.2.2.2.1
def dX11_arrow_4 := dc_cX11_arrow_dX11_arrow_0_0.2.2.2.2.1
def dX11_arrow_6 := dc_cX11_arrow_dX11_arrow_0_0.2.2.2.2.2.1
def dX11_arrow_9 := dc_cX11_arrow_dX11_arrow_0_0.2.2.2.2.2.2.1
def dX11_arrow_12 := dc_cX11_arrow_dX11_arrow_0_0.2.2.2.2.2.2.2.1
def dX11_arrow_13 := dc_cX11_arrow_dX11_arrow_0_0.2.2.2.2.2.2.2.2.1
def dX11_arrow_14 := dc_cX11_arrow_dX11_arrow_0_0.2.2.2.2.2.2.2.2.2.1
def dX11_arrow_15 := dc_cX11_arrow_dX11_arrow_0_0.2.2.2.2.2.2.2.2.2.2.1
def dX11_arrow_16 := dc_cX11_arrow_dX11_arrow_0_0.2.2.2.2.2.2.2.2.2.2.2.1
def dX11_arrow_17 := dc_cX11_arrow_dX11_arrow_0_0.2.2.2.2.2.2.2.2.2.2.2.2.1
def dX11_arrow_20 := dc_cX11_arrow_dX11_arrow_0_0.2.2.2.2.2.2.2.2.2.2.2.2.2.1
def dX11_arrow_22 := dc_cX11_arrow_dX11_arrow_0_0.2.2.2.2.2.2.2.2.2.2.2.2.2.2.1
def dX11_arrow_23 := dc_cX11_arrow_dX11_arrow_0_0.2.2.2.2.2.2.2.2.2.2.2.2.2.2.2
set_option maxRecDepth 100000 in
theorem db_cX11_arrow_dX11_arrow_26_1 : zw [(26, .iload 6, 2), (28, .iaload, 1), (29, .istore 7, 2), (31, .aload_n 0, 1), (32, .getfield 19, 3), (35, .iload 6, 2), (37, .iload 5, 2), (39, .ifCond .eq 13, 3), (42, .iload 7, 2), (44, .iconst 1, 1), (45, .iload 4, 2), (47, .ishl, 1), (48, .ior, 1), (49, .goto 12, 3), (52, .iload 7, 2), (54, .iconst 1, 1)] (cX11_arrow.data.toList.drop 26) 26 = true := by decide +kernel
def dc_cX11_arrow_dX11_arrow_26_1 := zw_16 db_cX11_arrow_dX11_arrow_26_1
def dX11_arrow_26 := dc_cX11_arrow_dX11_arrow_26_1.1
def dX11_arrow_28 := dc_cX11_arrow_dX11_arrow_26_1.2.1
def dX11_arrow_29 := dc_cX11_arrow_dX11_arrow_26_1.2.2.1
def dX11_arrow_31 := dc_cX11_arrow_dX11_arrow_26_1.2.2.2.1
def dX11_arrow_32 := dc_cX11_arrow_dX11_arrow_26_1.2.2.2.2.1
def dX11_arrow_35 := dc_cX11_arrow_dX11_arrow_26_1.2.2.2.2.2.1
def dX11_arrow_37 := dc_cX11_arrow_dX11_arrow_26_1.2.2.2.2.2.2.1
def dX11_arrow_39 := dc_cX11_arrow_dX11_arrow_26_1.2.2.2.2.2.2.2.1
def dX11_arrow_42 := dc_cX11_arrow_dX11_arrow_26_1.2.2.2.2.2.2.2.2.1
def dX11_arrow_44 := dc_cX11_arrow_dX11_arrow_26_1.2.2.2.2.2.2.2.2.2.1
def dX11_arrow_45 := dc_cX11_arrow_dX11_arrow_26_1.2.2.2.2.2.2.2.2.2.2.1
def dX11_arrow_47 := dc_cX11_arrow_dX11_arrow_26_1.2.2.2.2.2.2.2.2.2.2.2.1
def dX11_arrow_48 := dc_cX11_arrow_dX11_arrow_26_1.2.2.2.2.2.2.2.2.2.2.2.2.1
def dX11_arrow_49 := dc_cX11_arrow_dX11_arrow_26_1.2.2.2.2.2.2.2.2.2.2.2.2.2.1
def dX11_arrow_52 := dc_cX11_arrow_dX11_arrow_26_1.2.2.2.2.2.2.2.2.2.2.2.2.2.2.1
def dX11_arrow_54 := dc_cX11_arrow_dX11_arrow_26_1.2.2.2.2.2.2.2.2.2.2.2.2.2.2.2
set_option maxRecDepth 100000 in
theorem db_cX11_arrow_dX11_arrow_55_2 : zw [(55, .iload 4, 2), (57, .ishl, 1), (58, .iconst (-1), 1), (59, .ixor, 1), (60, .iand, 1), (61, .iastore, 1), (62, .aload_n 0, 1), (63, .iload 7, 2), (65, .aload_n 0, 1), (66, .getfield 19, 3), (69, .iload 6, 2), (71, .iaload, 1), (72, .if_icmp .ne 7, 3), (75, .iconst 0, 1), (76, .goto 4, 3), (79, .iconst 1, 1)] (cX11_arrow.data.toList.drop 55) 55 = true := by decide +kernel
def dc_cX11_arrow_dX11_arrow_55_2 := zw_16 db_cX11_arrow_dX11_arrow_55_2
def dX11_arrow_55 := dc_cX11_arrow_dX11_arrow_55_2.1
def dX11_arrow_57 := dc_cX11_arrow_dX11_arrow_55_2.2.1
def dX11_arrow_58 := dc_cX11_arrow_dX11_arrow_55_2.2.2.1
def dX11_arrow_59 := dc_cX11_arrow_dX11_arrow_55_2.2.2.2.1
def dX11_arrow_60 := dc_cX11_arrow_dX11_arrow_55_2.2.2.2.2.1
def dX11_arrow_61 := dc_cX11_arrow_dX11_arrow_55_2.2.2.2.2.2.1
def dX11_arrow_62 := dc_cX11_arrow_dX11_arrow_55_2.2.2.2.2.2.2.1
def dX11_arrow_63 := dc_cX11_arrow_dX11_arrow_55_2.2.2.2.2.2.2.2.1
def dX11_arrow_65 := dc_cX11_arrow_dX11_arrow_55_2.2.2.2.2.2.2.2.2.1
def dX11_arrow_66 := dc_cX11_arrow_dX11_arrow_55_2.2.2.2.2.2.2.2.2.2.1
def dX11_arrow_69 := dc_cX11_arrow_dX11_arrow_55_2.2.2.2.2.2.2.2.2.2.2.1
def dX11_arrow_71 := dc_cX11_arrow_dX11_arrow_55_2.2.2.2.2.2.2.2.2.2.2.2.1
def dX11_arrow_72 := dc_cX11_arrow_dX11_arrow_55_2.2.2.2.2.2.2.2.2.2.2.2.2.1
def dX11_arrow_75 := dc_cX11_arrow_dX11_arrow_55_2.2.2.2.2.2.2.2.2.2.2.2.2.2.1
def dX11_arrow_76 := dc_cX11_arrow_dX11_arrow_55_2.2.2.2.2.2.2.2.2.2.2.2.2.2.2.1
def dX11_arrow_79 := dc_cX11_arrow_dX11_arrow_55_2.2.2.2.2.2.2.2.2.2.2.2.2.2.2.2
set_option maxRecDepth 100000 in
theorem db_cX11_arrow_dX11_arrow_80_3 : zw [(80, .invokevirtual 108, 3), (83, .ireturn, 1)] (cX11_arrow.data.toList.drop 80) 80 = true := by decide +kernel
def dc_cX11_arrow_dX11_arrow_80_3 := zw_2 db_cX11_arrow_dX11_arrow_80_3
def dX11_arrow_80 := dc_cX11_arrow_dX11_arrow_80_3.1
def dX11_arrow_83 := dc_cX11_arrow_dX11_arrow_80_3.2
set_option maxRecDepth 100000 in
theorem db_cX11_lead_dX11_lead_0_0 : zw [(0, .aload_n 0, 1), (1, .iload_n 1, 1), (2, .iload_n 2, 1), (3, .iload_n 3, 1), (4, .iload 4, 2), (6, .invokevirtual 115, 3), (9, .ifCond .eq 5, 3), (12, .iconst 0, 1), (13, .ireturn, 1), (14, .iload_n 1, 1), (15, .iload_n 2, 1), (16, .iload_n 3, 1), (17, .invokestatic 36, 3), (20, .istore 5, 2), (22, .aload_n 0, 1), (23, .getfield 19, 3)] (cX11_lead.data.toList.drop 0) 0 = true := by decide +kernel
def dc_cX11_lead_dX11_lead_0_0 := zw_16 db_cX11_lead_dX11_lead_0_0
def dX11_lead_0 := dc_cX11_lead_dX11_lead_0_0.1
def dX11_lead_1 := dc_cX11_lead_dX11_lead_0_0.2.1
def dX11_lead_2 := dc_cX11_lead_dX11_lead_0_0.2.2.1
def dX11_lead_3 := dc_cX11_lead_dX11_lead_0_0.2.2.2.1
def dX11_lead_4 := dc_cX11_lead_dX11_lead_0_0.2.2.2.2.1
def dX11_lead_6 := dc_cX11_lead_dX11_lead_0_0.2.2.2.2.2.1
def dX11_lead_9 := dc_cX11_lead_dX11_lead_0_0.2.2.2.2.2.2.1
def dX11_lead_12 := dc_cX11_lead_dX11_lead_0_0.2.2.2.2.2.2.2.1
def dX11_lead_13 := dc_cX11_lead_dX11_lead_0_0.2.2.2.2.2.2.2.2.1
def dX11_lead_14 := dc_cX11_lead_dX11_lead_0_0.2.2.2.2.2.2.2.2.2.1
def dX11_lead_15 := dc_cX11_lead_dX11_lead_0_0.2.2.2.2.2.2.2.2.2.2.1
def dX11_lead_16 := dc_cX11_lead_dX11_lead_0_0.2.2.2.2.2.2.2.2.2.2.2.1
def dX11_lead_17 := dc_cX11_lead_dX11_lead_0_0.2.2.2.2.2.2.2.2.2.2.2.2.1
def dX11_lead_20 := dc_cX11_lead_dX11_lead_0_0.2.2.2.2.2.2.2.2.2.2.2.2.2.1
def dX11_lead_22 := dc_cX11_lead_dX11_lead_0_0.2.2.2.2.2.2.2.2.2.2.2.2.2.2.1
def dX11_lead_23 := dc_cX11_lead_dX11_lead_0_0.2.2.2.2.2.2.2.2.2.2.2.2.2.2.2
set_option maxRecDepth 100000 in
theorem db_cX11_lead_dX11_lead_26_1 : zw [(26, .iload 5, 2), (28, .iaload, 1), (29, .istore 6, 2), (31, .aload_n 0, 1), (32, .getfield 19, 3), (35, .iload 5, 2), (37, .iconst 1, 1), (38, .iload 4, 2), (40, .ishl, 1), (41, .iastore, 1), (42, .aload_n 0, 1), (43, .iload 6, 2), (45, .invokestatic 40, 3), (48, .invokevirtual 108, 3), (51, .ireturn, 1)] (cX11_lead.data.toList.drop 26) 26 = true := by decide +kernel
def dc_cX11_lead_dX11_lead_26_1 := zw_15 db_cX11_lead_dX11_lead_26_1
def dX11_lead_26 := dc_cX11_lead_dX11_lead_26_1.1
def dX11_lead_28 := dc_cX11_lead_dX11_lead_26_1.2.1
def dX11_lead_29 := dc_cX11_lead_dX11_lead_26_1.2.2.1
def dX11_lead_31 := dc_cX11_lead_dX11_lead_26_1.2.2.2.1
def dX11_lead_32 := dc_cX11_lead_dX11_lead_26_1.2.2.2.2.1
def dX11_lead_35 := dc_cX11_lead_dX11_lead_26_1.2.2.2.2.2.1
def dX11_lead_37 := dc_cX11_lead_dX11_lead_26_1.2.2.2.2.2.2.1
def dX11_lead_38 := dc_cX11_lead_dX11_lead_26_1.2.2.2.2.2.2.2.1
def dX11_lead_40 := dc_cX11_lead_dX11_lead_26_1.2.2.2.2.2.2.2.2.1
def dX11_lead_41 := dc_cX11_lead_dX11_lead_26_1.2.2.2.2.2.2.2.2.2.1
def dX11_lead_42 := dc_cX11_lead_dX11_lead_26_1.2.2.2.2.2.2.2.2.2.2.1
def dX11_lead_43 := dc_cX11_lead_dX11_lead_26_1.2.2.2.2.2.2.2.2.2.2.2.1
def dX11_lead_45 := dc_cX11_lead_dX11_lead_26_1.2.2.2.2.2.2.2.2.2.2.2.2.1
def dX11_lead_48 := dc_cX11_lead_dX11_lead_26_1.2.2.2.2.2.2.2.2.2.2.2.2.2.1
def dX11_lead_51 := dc_cX11_lead_dX11_lead_26_1.2.2.2.2.2.2.2.2.2.2.2.2.2.2
set_option maxRecDepth 100000 in
theorem db_cX11_mark_dX11_mark_0_0 : zw [(0, .aload_n 0, 1), (1, .iload_n 1, 1), (2, .invokestatic 93, 3), (5, .ifCond .eq 16, 3), (8, .aload_n 0, 1), (9, .iload_n 1, 1), (10, .iload_n 2, 1), (11, .invokevirtual 111, 3), (14, .ifCond .eq 7, 3), (17, .iconst 1, 1), (18, .goto 4, 3), (21, .iconst 0, 1), (22, .iconst 1, 1), (23, .invokevirtual 97, 3), (26, .ifCond .eq 5, 3), (29, .iconst 0, 1)] (cX11_mark.data.toList.drop 0) 0 = true := by decide +kernel
def dc_cX11_mark_dX11_mark_0_0 := zw_16 db_cX11_mark_dX11_mark_0_0
def dX11_mark_0 := dc_cX11_mark_dX11_mark_0_0.1
def dX11_mark_1 := dc_cX11_mark_dX11_mark_0_0.2.1
def dX11_mark_2 := dc_cX11_mark_dX11_mark_0_0.2.2.1
def dX11_mark_5 := dc_cX11_mark_dX11_mark_0_0.2.2.2.1
def dX11_mark_8 := dc_cX11_mark_dX11_mark_0_0.2.2.2.2.1
def dX11_mark_9 := dc_cX11_mark_dX11_mark_0_0.2.2.2.2.2.1
def dX11_mark_10 := dc_cX11_mark_dX11_mark_0_0.2.2.2.2.2.2.1
def dX11_mark_11 := dc_cX11_mark_dX11_mark_0_0.2.2.2.2.2.2.2.1
def dX11_mark_14 := dc_cX11_mark_dX11_mark_0_0.2.2.2.2.2.2.2.2.1
def dX11_mark_17 := dc_cX11_mark_dX11_mark_0_0.2.2.2.2.2.2.2.2.2.1
def dX11_mark_18 := dc_cX11_mark_dX11_mark_0_0.2.2.2.2.2.2.2.2.2.2.1
def dX11_mark_21 := dc_cX11_mark_dX11_mark_0_0.2.2.2.2.2.2.2.2.2.2.2.1
def dX11_mark_22 := dc_cX11_mark_dX11_mark_0_0.2.2.2.2.2.2.2.2.2.2.2.2.1
def dX11_mark_23 := dc_cX11_mark_dX11_mark_0_0.2.2.2.2.2.2.2.2.2.2.2.2.2.1
def dX11_mark_26 := dc_cX11_mark_dX11_mark_0_0.2.2.2.2.2.2.2.2.2.2.2.2.2.2.1
def dX11_mark_29 := dc_cX11_mark_dX11_mark_0_0.2.2.2.2.2.2.2.2.2.2.2.2.2.2.2
set_option maxRecDepth 100000 in
theorem db_cX11_mark_dX11_mark_30_1 : zw [(30, .ireturn, 1), (31, .iload_n 3, 1), (32, .ifCond .eq 10, 3), (35, .aload_n 0, 1), (36, .getfield 16, 3), (39, .goto 7, 3), (42, .aload_n 0, 1), (43, .getfield 13, 3), (46, .astore 5, 2), (48, .aload 5, 2), (50, .iload_n 1, 1), (51, .iaload, 1), (52, .istore 6, 2), (54, .aload 5, 2), (56, .iload_n 1, 1), (57, .iload 4, 2)] (cX11_mark.data.toList.drop 30) 30 = true := by decide +kernel
def dc_cX11_mark_dX11_mark_30_1 := zw_16 db_cX11_mark_dX11_mark_30_1
def dX11_mark_30 := dc_cX11_mark_dX11_mark_30_1.1
def dX11_mark_31 := dc_cX11_mark_dX11_mark_30_1.2.1
def dX11_mark_32 := dc_cX11_mark_dX11_mark_30_1.2.2.1
def dX11_mark_35 := dc_cX11_mark_dX11_mark_30_1.2.2.2.1
def dX11_mark_36 := dc_cX11_mark_dX11_mark_30_1.2.2.2.2.1
def dX11_mark_39 := dc_cX11_mark_dX11_mark_30_1.2.2.2.2.2.1
def dX11_mark_42 := dc_cX11_mark_dX11_mark_30_1.2.2.2.2.2.2.1
def dX11_mark_43 := dc_cX11_mark_dX11_mark_30_1.2.2.2.2.2.2.2.1
def dX11_mark_46 := dc_cX11_mark_dX11_mark_30_1.2.2.2.2.2.2.2.2.1
def dX11_mark_48 := dc_cX11_mark_dX11_mark_30_1.2.2.2.2.2.2.2.2.2.1
def dX11_mark_50 := dc_cX11_mark_dX11_mark_30_1.2.2.2.2.2.2.2.2.2.2.1
def dX11_mark_51 := dc_cX11_mark_dX11_mark_30_1.2.2.2.2.2.2.2.2.2.2.2.1
def dX11_mark_52 := dc_cX11_mark_dX11_mark_30_1.2.2.2.2.2.2.2.2.2.2.2.2.1
def dX11_mark_54 := dc_cX11_mark_dX11_mark_30_1.2.2.2.2.2.2.2.2.2.2.2.2.2.1
def dX11_mark_56 := dc_cX11_mark_dX11_mark_30_1.2.2.2.2.2.2.2.2.2.2.2.2.2.2.1
def dX11_mark_57 := dc_cX11_mark_dX11_mark_30_1.2.2.2.2.2.2.2.2.2.2.2.2.2.2.2
set_option maxRecDepth 100000 in
theorem db_cX11_mark_dX11_mark_59_2 : zw [(59, .ifCond .eq 12, 3), (62, .iload 6, 2), (64, .iconst 1, 1), (65, .iload_n 2, 1), (66, .ishl, 1), (67, .ior, 1), (68, .goto 11, 3), (71, .iload 6, 2), (73, .iconst 1, 1), (74, .iload_n 2, 1), (75, .ishl, 1), (76, .iconst (-1), 1), (77, .ixor, 1), (78, .iand, 1), (79, .iastore, 1), (80, .aload_n 0, 1)] (cX11_mark.data.toList.drop 59) 59 = true := by decide +kernel
def dc_cX11_mark_dX11_mark_59_2 := zw_16 db_cX11_mark_dX11_mark_59_2
def dX11_mark_59 := dc_cX11_mark_dX11_mark_59_2.1
def dX11_mark_62 := dc_cX11_mark_dX11_mark_59_2.2.1
def dX11_mark_64 := dc_cX11_mark_dX11_mark_59_2.2.2.1
def dX11_mark_65 := dc_cX11_mark_dX11_mark_59_2.2.2.2.1
def dX11_mark_66 := dc_cX11_mark_dX11_mark_59_2.2.2.2.2.1
def dX11_mark_67 := dc_cX11_mark_dX11_mark_59_2.2.2.2.2.2.1
def dX11_mark_68 := dc_cX11_mark_dX11_mark_59_2.2.2.2.2.2.2.1
def dX11_mark_71 := dc_cX11_mark_dX11_mark_59_2.2.2.2.2.2.2.2.1
def dX11_mark_73 := dc_cX11_mark_dX11_mark_59_2.2.2.2.2.2.2.2.2.1
def dX11_mark_74 := dc_cX11_mark_dX11_mark_59_2.2.2.2.2.2.2.2.2.2.1
def dX11_mark_75 := dc_cX11_mark_dX11_mark_59_2.2.2.2.2.2.2.2.2.2.2.1
def dX11_mark_76 := dc_cX11_mark_dX11_mark_59_2.2.2.2.2.2.2.2.2.2.2.2.1
def dX11_mark_77 := dc_cX11_mark_dX11_mark_59_2.2.2.2.2.2.2.2.2.2.2.2.2.1
def dX11_mark_78 := dc_cX11_mark_dX11_mark_59_2.2.2.2.2.2.2.2.2.2.2.2.2.2.1
def dX11_mark_79 := dc_cX11_mark_dX11_mark_59_2.2.2.2.2.2.2.2.2.2.2.2.2.2.2.1
def dX11_mark_80 := dc_cX11_mark_dX11_mark_59_2.2.2.2.2.2.2.2.2.2.2.2.2.2.2.2
set_option maxRecDepth 100000 in
theorem db_cX11_mark_dX11_mark_81_3 : zw [(81, .iload 6, 2), (83, .aload 5, 2), (85, .iload_n 1, 1), (86, .iaload, 1), (87, .if_icmp .ne 7, 3), (90, .iconst 0, 1), (91, .goto 4, 3), (94, .iconst 1, 1), (95, .invokevirtual 108, 3), (98, .ireturn, 1)] (cX11_mark.data.toList.drop 81) 81 = true := by decide +kernel
def dc_cX11_mark_dX11_mark_81_3 := zw_10 db_cX11_mark_dX11_mark_81_3
def dX11_mark_81 := dc_cX11_mark_dX11_mark_81_3.1
def dX11_mark_83 := dc_cX11_mark_dX11_mark_81_3.2.1
def dX11_mark_85 := dc_cX11_mark_dX11_mark_81_3.2.2.1
def dX11_mark_86 := dc_cX11_mark_dX11_mark_81_3.2.2.2.1
def dX11_mark_87 := dc_cX11_mark_dX11_mark_81_3.2.2.2.2.1
def dX11_mark_90 := dc_cX11_mark_dX11_mark_81_3.2.2.2.2.2.1
def dX11_mark_91 := dc_cX11_mark_dX11_mark_81_3.2.2.2.2.2.2.1
def dX11_mark_94 := dc_cX11_mark_dX11_mark_81_3.2.2.2.2.2.2.2.1
def dX11_mark_95 := dc_cX11_mark_dX11_mark_81_3.2.2.2.2.2.2.2.2.1
def dX11_mark_98 := dc_cX11_mark_dX11_mark_81_3.2.2.2.2.2.2.2.2.2
set_option maxRecDepth 100000 in
theorem db_cX11_sow_dX11_sow_0_0 : zw [(0, .aload_n 0, 1), (1, .iload_n 1, 1), (2, .invokestatic 93, 3), (5, .iload_n 2, 1), (6, .iconst 0, 1), (7, .ldc 119, 2), (9, .invokestatic 26, 3), (12, .ifCond .eq 28, 3), (15, .iload_n 3, 1), (16, .iconst 1, 1), (17, .bipush 7, 2), (19, .invokestatic 26, 3), (22, .ifCond .eq 18, 3), (25, .iload 4, 2), (27, .iconst 0, 1), (28, .bipush 6, 2)] (cX11_sow.data.toList.drop 0) 0 = true := by decide +kernel
def dc_cX11_sow_dX11_sow_0_0 := zw_16 db_cX11_sow_dX11_sow_0_0
def dX11_sow_0 := dc_cX11_sow_dX11_sow_0_0.1
def dX11_sow_1 := dc_cX11_sow_dX11_sow_0_0.2.1
def dX11_sow_2 := dc_cX11_sow_dX11_sow_0_0.2.2.1
def dX11_sow_5 := dc_cX11_sow_dX11_sow_0_0.2.2.2.1
def dX11_sow_6 := dc_cX11_sow_dX11_sow_0_0.2.2.2.2.1
def dX11_sow_7 := dc_cX11_sow_dX11_sow_0_0.2.2.2.2.2.1
def dX11_sow_9 := dc_cX11_sow_dX11_sow_0_0.2.2.2.2.2.2.1
def dX11_sow_12 := dc_cX11_sow_dX11_sow_0_0.2.2.2.2.2.2.2.1
def dX11_sow_15 := dc_cX11_sow_dX11_sow_0_0.2.2.2.2.2.2.2.2.1
def dX11_sow_16 := dc_cX11_sow_dX11_sow_0_0.2.2.2.2.2.2.2.2.2.1
def dX11_sow_17 := dc_cX11_sow_dX11_sow_0_0.2.2.2.2.2.2.2.2.2.2.1
def dX11_sow_19 := dc_cX11_sow_dX11_sow_0_0.2.2.2.2.2.2.2.2.2.2.2.1
def dX11_sow_22 := dc_cX11_sow_dX11_sow_0_0.2.2.2.2.2.2.2.2.2.2.2.2.1
def dX11_sow_25 := dc_cX11_sow_dX11_sow_0_0.2.2.2.2.2.2.2.2.2.2.2.2.2.1
def dX11_sow_27 := dc_cX11_sow_dX11_sow_0_0.2.2.2.2.2.2.2.2.2.2.2.2.2.2.1
def dX11_sow_28 := dc_cX11_sow_dX11_sow_0_0.2.2.2.2.2.2.2.2.2.2.2.2.2.2.2
set_option maxRecDepth 100000 in
theorem db_cX11_sow_dX11_sow_30_1 : zw [(30, .invokestatic 26, 3), (33, .ifCond .eq 7, 3), (36, .iconst 1, 1), (37, .goto 4, 3), (40, .iconst 0, 1), (41, .invokevirtual 97, 3), (44, .ifCond .eq 5, 3), (47, .iconst 0, 1), (48, .ireturn, 1), (49, .aload_n 0, 1), (50, .iload_n 1, 1), (51, .iload_n 3, 1), (52, .invokevirtual 104, 3), (55, .iload_n 2, 1), (56, .istore 5, 2), (58, .iconst 0, 1)] (cX11_sow.data.toList.drop 30) 30 = true := by decide +kernel
def dc_cX11_sow_dX11_sow_30_1 := zw_16 db_cX11_sow_dX11_sow_30_1
def dX11_sow_30 := dc_cX11_sow_dX11_sow_30_1.1
def dX11_sow_33 := dc_cX11_sow_dX11_sow_30_1.2.1
def dX11_sow_36 := dc_cX11_sow_dX11_sow_30_1.2.2.1
def dX11_sow_37 := dc_cX11_sow_dX11_sow_30_1.2.2.2.1
def dX11_sow_40 := dc_cX11_sow_dX11_sow_30_1.2.2.2.2.1
def dX11_sow_41 := dc_cX11_sow_dX11_sow_30_1.2.2.2.2.2.1
def dX11_sow_44 := dc_cX11_sow_dX11_sow_30_1.2.2.2.2.2.2.1
def dX11_sow_47 := dc_cX11_sow_dX11_sow_30_1.2.2.2.2.2.2.2.1
def dX11_sow_48 := dc_cX11_sow_dX11_sow_30_1.2.2.2.2.2.2.2.2.1
def dX11_sow_49 := dc_cX11_sow_dX11_sow_30_1.2.2.2.2.2.2.2.2.2.1
def dX11_sow_50 := dc_cX11_sow_dX11_sow_30_1.2.2.2.2.2.2.2.2.2.2.1
def dX11_sow_51 := dc_cX11_sow_dX11_sow_30_1.2.2.2.2.2.2.2.2.2.2.2.1
def dX11_sow_52 := dc_cX11_sow_dX11_sow_30_1.2.2.2.2.2.2.2.2.2.2.2.2.1
def dX11_sow_55 := dc_cX11_sow_dX11_sow_30_1.2.2.2.2.2.2.2.2.2.2.2.2.2.1
def dX11_sow_56 := dc_cX11_sow_dX11_sow_30_1.2.2.2.2.2.2.2.2.2.2.2.2.2.2.1
def dX11_sow_58 := dc_cX11_sow_dX11_sow_30_1.2.2.2.2.2.2.2.2.2.2.2.2.2.2.2
set_option maxRecDepth 100000 in
theorem db_cX11_sow_dX11_sow_59_2 : zw [(59, .istore 6, 2), (61, .iload 6, 2), (63, .iload_n 3, 1), (64, .if_icmp .ge 126, 3), (67, .iconst 0, 1), (68, .istore 7, 2), (70, .iload 7, 2), (72, .iconst 3, 1), (73, .if_icmp .ge 111, 3), (76, .iconst 0, 1), (77, .istore 8, 2), (79, .iload 8, 2), (81, .iload 4, 2), (83, .ifCond .ne 7, 3), (86, .iconst 1, 1), (87, .goto 4, 3)] (cX11_sow.data.toList.drop 59) 59 = true := by decide +kernel
def dc_cX11_sow_dX11_sow_59_2 := zw_16 db_cX11_sow_dX11_sow_59_2
def dX11_sow_59 := dc_cX11_sow_dX11_sow_59_2.1
def dX11_sow_61 := dc_cX11_sow_dX11_sow_59_2.2.1
def dX11_sow_63 := dc_cX11_sow_dX11_sow_59_2.2.2.1
def dX11_sow_64 := dc_cX11_sow_dX11_sow_59_2.2.2.2.1
def dX11_sow_67 := dc_cX11_sow_dX11_sow_59_2.2.2.2.2.1
def dX11_sow_68 := dc_cX11_sow_dX11_sow_59_2.2.2.2.2.2.1
def dX11_sow_70 := dc_cX11_sow_dX11_sow_59_2.2.2.2.2.2.2.1
def dX11_sow_72 := dc_cX11_sow_dX11_sow_59_2.2.2.2.2.2.2.2.1
def dX11_sow_73 := dc_cX11_sow_dX11_sow_59_2.2.2.2.2.2.2.2.2.1
def dX11_sow_76 := dc_cX11_sow_dX11_sow_59_2.2.2.2.2.2.2.2.2.2.1
def dX11_sow_77 := dc_cX11_sow_dX11_sow_59_2.2.2.2.2.2.2.2.2.2.2.1
def dX11_sow_79 := dc_cX11_sow_dX11_sow_59_2.2.2.2.2.2.2.2.2.2.2.2.1
def dX11_sow_81 := dc_cX11_sow_dX11_sow_59_2.2.2.2.2.2.2.2.2.2.2.2.2.1
def dX11_sow_83 := dc_cX11_sow_dX11_sow_59_2.2.2.2.2.2.2.2.2.2.2.2.2.2.1
def dX11_sow_86 := dc_cX11_sow_dX11_sow_59_2.2.2.2.2.2.2.2.2.2.2.2.2.2.2.1
def dX11_sow_87 := dc_cX11_sow_dX11_sow_59_2.2.2.2.2.2.2.2.2.2.2.2.2.2.2.2
set_option maxRecDepth 100000 in
theorem db_cX11_sow_dX11_sow_90_3 : zw [(90, .iload_n 3, 1), (91, .if_icmp .ge 87, 3), (94, .iload 5, 2), (96, .sipush 25173, 3), (99, .imul, 1), (100, .sipush 13849, 3), (103, .iadd, 1), (104, .ldc 120, 2), (106, .irem, 1), (107, .istore 5, 2), (109, .iload 4, 2), (111, .ifCond .ne 28, 3), (114, .aload_n 0, 1), (115, .getfield 19, 3), (118, .iload_n 1, 1), (119, .iload 6, 2)] (cX11_sow.data.toList.drop 90) 90 = true := by decide +kernel
def dc_cX11_sow_dX11_sow_90_3 := zw_16 db_cX11_sow_dX11_sow_90_3
def dX11_sow_90 := dc_cX11_sow_dX11_sow_90_3.1
def dX11_sow_91 := dc_cX11_sow_dX11_sow_90_3.2.1
def dX11_sow_94 := dc_cX11_sow_dX11_sow_90_3.2.2.1
def dX11_sow_96 := dc_cX11_sow_dX11_sow_90_3.2.2.2.1
def dX11_sow_99 := dc_cX11_sow_dX11_sow_90_3.2.2.2.2.1
def dX11_sow_100 := dc_cX11_sow_dX11_sow_90_3.2.2.2.2.2.1
def dX11_sow_103 := dc_cX11_sow_dX11_sow_90_3.2.2.2.2.2.2.1
def dX11_sow_104 := dc_cX11_sow_dX11_sow_90_3.2.2.2.2.2.2.2.1
def dX11_sow_106 := dc_cX11_sow_dX11_sow_90_3.2.2.2.2.2.2.2.2.1
def dX11_sow_107 := dc_cX11_sow_dX11_sow_90_3.2.2.2.2.2.2.2.2.2.1
def dX11_sow_109 := dc_cX11_sow_dX11_sow_90_3.2.2.2.2.2.2.2.2.2.2.1
def dX11_sow_111 := dc_cX11_sow_dX11_sow_90_3.2.2.2.2.2.2.2.2.2.2.2.1
def dX11_sow_114 := dc_cX11_sow_dX11_sow_90_3.2.2.2.2.2.2.2.2.2.2.2.2.1
def dX11_sow_115 := dc_cX11_sow_dX11_sow_90_3.2.2.2.2.2.2.2.2.2.2.2.2.2.1
def dX11_sow_118 := dc_cX11_sow_dX11_sow_90_3.2.2.2.2.2.2.2.2.2.2.2.2.2.2.1
def dX11_sow_119 := dc_cX11_sow_dX11_sow_90_3.2.2.2.2.2.2.2.2.2.2.2.2.2.2.2
set_option maxRecDepth 100000 in
theorem db_cX11_sow_dX11_sow_121_4 : zw [(121, .iload 7, 2), (123, .invokestatic 36, 3), (126, .iconst 1, 1), (127, .iload 5, 2), (129, .bipush 64, 2), (131, .idiv, 1), (132, .iload_n 3, 1), (133, .irem, 1), (134, .ishl, 1), (135, .iastore, 1), (136, .goto 36, 3), (139, .iload 5, 2), (141, .bipush 64, 2), (143, .idiv, 1), (144, .iload 4, 2), (146, .iconst 1, 1)] (cX11_sow.data.toList.drop 121) 121 = true := by decide +kernel
def dc_cX11_sow_dX11_sow_121_4 := zw_16 db_cX11_sow_dX11_sow_121_4
def dX11_sow_121 := dc_cX11_sow_dX11_sow_121_4.1
def dX11_sow_123 := dc_cX11_sow_dX11_sow_121_4.2.1
def dX11_sow_126 := dc_cX11_sow_dX11_sow_121_4.2.2.1
def dX11_sow_127 := dc_cX11_sow_dX11_sow_121_4.2.2.2.1
def dX11_sow_129 := dc_cX11_sow_dX11_sow_121_4.2.2.2.2.1
def dX11_sow_131 := dc_cX11_sow_dX11_sow_121_4.2.2.2.2.2.1
def dX11_sow_132 := dc_cX11_sow_dX11_sow_121_4.2.2.2.2.2.2.1
def dX11_sow_133 := dc_cX11_sow_dX11_sow_121_4.2.2.2.2.2.2.2.1
def dX11_sow_134 := dc_cX11_sow_dX11_sow_121_4.2.2.2.2.2.2.2.2.1
def dX11_sow_135 := dc_cX11_sow_dX11_sow_121_4.2.2.2.2.2.2.2.2.2.1
def dX11_sow_136 := dc_cX11_sow_dX11_sow_121_4.2.2.2.2.2.2.2.2.2.2.1
def dX11_sow_139 := dc_cX11_sow_dX11_sow_121_4.2.2.2.2.2.2.2.2.2.2.2.1
def dX11_sow_141 := dc_cX11_sow_dX11_sow_121_4.2.2.2.2.2.2.2.2.2.2.2.2.1
def dX11_sow_143 := dc_cX11_sow_dX11_sow_121_4.2.2.2.2.2.2.2.2.2.2.2.2.2.1
def dX11_sow_144 := dc_cX11_sow_dX11_sow_121_4.2.2.2.2.2.2.2.2.2.2.2.2.2.2.1
def dX11_sow_146 := dc_cX11_sow_dX11_sow_121_4.2.2.2.2.2.2.2.2.2.2.2.2.2.2.2
set_option maxRecDepth 100000 in
theorem db_cX11_sow_dX11_sow_147_5 : zw [(147, .iadd, 1), (148, .irem, 1), (149, .ifCond .ne 23, 3), (152, .aload_n 0, 1), (153, .getfield 19, 3), (156, .iload_n 1, 1), (157, .iload 6, 2), (159, .iload 7, 2), (161, .invokestatic 36, 3), (164, .dup2, 1), (165, .iaload, 1), (166, .iconst 1, 1), (167, .iload 8, 2), (169, .ishl, 1), (170, .ior, 1), (171, .iastore, 1)] (cX11_sow.data.toList.drop 147) 147 = true := by decide +kernel
def dc_cX11_sow_dX11_sow_147_5 := zw_16 db_cX11_sow_dX11_sow_147_5
def dX11_sow_147 := dc_cX11_sow_dX11_sow_147_5.1
def dX11_sow_148 := dc_cX11_sow_dX11_sow_147_5.2.1
def dX11_sow_149 := dc_cX11_sow_dX11_sow_147_5.2.2.1
def dX11_sow_152 := dc_cX11_sow_dX11_sow_147_5.2.2.2.1
def dX11_sow_153 := dc_cX11_sow_dX11_sow_147_5.2.2.2.2.1
def dX11_sow_156 := dc_cX11_sow_dX11_sow_147_5.2.2.2.2.2.1
def dX11_sow_157 := dc_cX11_sow_dX11_sow_147_5.2.2.2.2.2.2.1
def dX11_sow_159 := dc_cX11_sow_dX11_sow_147_5.2.2.2.2.2.2.2.1
def dX11_sow_161 := dc_cX11_sow_dX11_sow_147_5.2.2.2.2.2.2.2.2.1
def dX11_sow_164 := dc_cX11_sow_dX11_sow_147_5.2.2.2.2.2.2.2.2.2.1
def dX11_sow_165 := dc_cX11_sow_dX11_sow_147_5.2.2.2.2.2.2.2.2.2.2.1
def dX11_sow_166 := dc_cX11_sow_dX11_sow_147_5.2.2.2.2.2.2.2.2.2.2.2.1
def dX11_sow_167 := dc_cX11_sow_dX11_sow_147_5.2.2.2.2.2.2.2.2.2.2.2.2.1
def dX11_sow_169 := dc_cX11_sow_dX11_sow_147_5.2.2.2.2.2.2.2.2.2.2.2.2.2.1
def dX11_sow_170 := dc_cX11_sow_dX11_sow_147_5.2.2.2.2.2.2.2.2.2.2.2.2.2.2.1
def dX11_sow_171 := dc_cX11_sow_dX11_sow_147_5.2.2.2.2.2.2.2.2.2.2.2.2.2.2.2
set_option maxRecDepth 100000 in
theorem db_cX11_sow_dX11_sow_172_6 : zw [(172, .iinc 8 1, 3), (175, .goto (-96), 3), (178, .iinc 7 1, 3), (181, .goto (-111), 3), (184, .iinc 6 1, 3), (187, .goto (-126), 3), (190, .iconst 0, 1), (191, .istore 6, 2), (193, .iload 6, 2), (195, .iload_n 3, 1), (196, .if_icmp .ge 47, 3), (199, .iload 5, 2), (201, .sipush 25173, 3), (204, .imul, 1), (205, .sipush 13849, 3), (208, .iadd, 1)] (cX11_sow.data.toList.drop 172) 172 = true := by decide +kernel
def dc_cX11_sow_dX11_sow_172_6 := zw_16 db_cX11_sow_dX11_sow_172_6
def dX11_sow_172 := dc_cX11_sow_dX11_sow_172_6.1
def dX11_sow_175 := dc_cX11_sow_dX11_sow_172_6.2.1
def dX11_sow_178 := dc_cX11_sow_dX11_sow_172_6.2.2.1
def dX11_sow_181 := dc_cX11_sow_dX11_sow_172_6.2.2.2.1
def dX11_sow_184 := dc_cX11_sow_dX11_sow_172_6.2.2.2.2.1
def dX11_sow_187 := dc_cX11_sow_dX11_sow_172_6.2.2.2.2.2.1
def dX11_sow_190 := dc_cX11_sow_dX11_sow_172_6.2.2.2.2.2.2.1
def dX11_sow_191 := dc_cX11_sow_dX11_sow_172_6.2.2.2.2.2.2.2.1
def dX11_sow_193 := dc_cX11_sow_dX11_sow_172_6.2.2.2.2.2.2.2.2.1
def dX11_sow_195 := dc_cX11_sow_dX11_sow_172_6.2.2.2.2.2.2.2.2.2.1
def dX11_sow_196 := dc_cX11_sow_dX11_sow_172_6.2.2.2.2.2.2.2.2.2.2.1
def dX11_sow_199 := dc_cX11_sow_dX11_sow_172_6.2.2.2.2.2.2.2.2.2.2.2.1
def dX11_sow_201 := dc_cX11_sow_dX11_sow_172_6.2.2.2.2.2.2.2.2.2.2.2.2.1
def dX11_sow_204 := dc_cX11_sow_dX11_sow_172_6.2.2.2.2.2.2.2.2.2.2.2.2.2.1
def dX11_sow_205 := dc_cX11_sow_dX11_sow_172_6.2.2.2.2.2.2.2.2.2.2.2.2.2.2.1
def dX11_sow_208 := dc_cX11_sow_dX11_sow_172_6.2.2.2.2.2.2.2.2.2.2.2.2.2.2.2
set_option maxRecDepth 100000 in
theorem db_cX11_sow_dX11_sow_209_7 : zw [(209, .ldc 120, 2), (211, .irem, 1), (212, .istore 5, 2), (214, .iload 5, 2), (216, .bipush 64, 2), (218, .idiv, 1), (219, .iconst 2, 1), (220, .irem, 1), (221, .ifCond .ne 16, 3), (224, .aload_n 0, 1), (225, .getfield 16, 3), (228, .iload_n 1, 1), (229, .dup2, 1), (230, .iaload, 1), (231, .iconst 1, 1), (232, .iload 6, 2)] (cX11_sow.data.toList.drop 209) 209 = true := by decide +kernel
def dc_cX11_sow_dX11_sow_209_7 := zw_16 db_cX11_sow_dX11_sow_209_7
def dX11_sow_209 := dc_cX11_sow_dX11_sow_209_7.1
def dX11_sow_211 := dc_cX11_sow_dX11_sow_209_7.2.1
def dX11_sow_212 := dc_cX11_sow_dX11_sow_209_7.2.2.1
def dX11_sow_214 := dc_cX11_sow_dX11_sow_209_7.2.2.2.1
def dX11_sow_216 := dc_cX11_sow_dX11_sow_209_7.2.2.2.2.1
def dX11_sow_218 := dc_cX11_sow_dX11_sow_209_7.2.2.2.2.2.1
def dX11_sow_219 := dc_cX11_sow_dX11_sow_209_7.2.2.2.2.2.2.1
def dX11_sow_220 := dc_cX11_sow_dX11_sow_209_7.2.2.2.2.2.2.2.1
def dX11_sow_221 := dc_cX11_sow_dX11_sow_209_7.2.2.2.2.2.2.2.2.1
def dX11_sow_224 := dc_cX11_sow_dX11_sow_209_7.2.2.2.2.2.2.2.2.2.1
def dX11_sow_225 := dc_cX11_sow_dX11_sow_209_7.2.2.2.2.2.2.2.2.2.2.1
def dX11_sow_228 := dc_cX11_sow_dX11_sow_209_7.2.2.2.2.2.2.2.2.2.2.2.1
def dX11_sow_229 := dc_cX11_sow_dX11_sow_209_7.2.2.2.2.2.2.2.2.2.2.2.2.1
def dX11_sow_230 := dc_cX11_sow_dX11_sow_209_7.2.2.2.2.2.2.2.2.2.2.2.2.2.1
def dX11_sow_231 := dc_cX11_sow_dX11_sow_209_7.2.2.2.2.2.2.2.2.2.2.2.2.2.2.1
def dX11_sow_232 := dc_cX11_sow_dX11_sow_209_7.2.2.2.2.2.2.2.2.2.2.2.2.2.2.2
set_option maxRecDepth 100000 in
theorem db_cX11_sow_dX11_sow_234_8 : zw [(234, .ishl, 1), (235, .ior, 1), (236, .iastore, 1), (237, .iinc 6 1, 3), (240, .goto (-47), 3), (243, .aload_n 0, 1), (244, .aload_n 0, 1), (245, .iload_n 1, 1), (246, .invokevirtual 101, 3), (249, .invokevirtual 108, 3), (252, .ireturn, 1)] (cX11_sow.data.toList.drop 234) 234 = true := by decide +kernel
def dc_cX11_sow_dX11_sow_234_8 := zw_11 db_cX11_sow_dX11_sow_234_8
def dX11_sow_234 := dc_cX11_sow_dX11_sow_234_8.1
def dX11_sow_235 := dc_cX11_sow_dX11_sow_234_8.2.1
def dX11_sow_236 := dc_cX11_sow_dX11_sow_234_8.2.2.1
def dX11_sow_237 := dc_cX11_sow_dX11_sow_234_8.2.2.2.1
def dX11_sow_240 := dc_cX11_sow_dX11_sow_234_8.2.2.2.2.1
def dX11_sow_243 := dc_cX11_sow_dX11_sow_234_8.2.2.2.2.2.1
def dX11_sow_244 := dc_cX11_sow_dX11_sow_234_8.2.2.2.2.2.2.1
def dX11_sow_245 := dc_cX11_sow_dX11_sow_234_8.2.2.2.2.2.2.2.1
def dX11_sow_246 := dc_cX11_sow_dX11_sow_234_8.2.2.2.2.2.2.2.2.1
def dX11_sow_249 := dc_cX11_sow_dX11_sow_234_8.2.2.2.2.2.2.2.2.2.1
def dX11_sow_252 := dc_cX11_sow_dX11_sow_234_8.2.2.2.2.2.2.2.2.2.2
set_option maxRecDepth 100000 in
theorem db_cX11_isSame_dX11_isSame_0_0 : zw [(0, .aload_n 0, 1), (1, .getfield 7, 3), (4, .iload_n 1, 1), (5, .iaload, 1), (6, .aload_n 0, 1), (7, .getfield 7, 3), (10, .iload_n 2, 1), (11, .iaload, 1), (12, .if_icmp .ne 37, 3), (15, .aload_n 0, 1), (16, .getfield 13, 3), (19, .iload_n 1, 1), (20, .iaload, 1), (21, .aload_n 0, 1), (22, .getfield 13, 3), (25, .iload_n 2, 1)] (cX11_isSame.data.toList.drop 0) 0 = true := by decide +kernel
def dc_cX11_isSame_dX11_isSame_0_0 := zw_16 db_cX11_isSame_dX11_isSame_0_0
def dX11_isSame_0 := dc_cX11_isSame_dX11_isSame_0_0.1
def dX11_isSame_1 := dc_cX11_isSame_dX11_isSame_0_0.2.1
def dX11_isSame_4 := dc_cX11_isSame_dX11_isSame_0_0.2.2.1
def dX11_isSame_5 := dc_cX11_isSame_dX11_isSame_0_0.2.2.2.1
def dX11_isSame_6 := dc_cX11_isSame_dX11_isSame_0_0.2.2.2.2.1
def dX11_isSame_7 := dc_cX11_isSame_dX11_isSame_0_0.2.2.2.2.2.1
def dX11_isSame_10 := dc_cX11_isSame_dX11_isSame_0_0.2.2.2.2.2.2.1
def dX11_isSame_11 := dc_cX11_isSame_dX11_isSame_0_0.2.2.2.2.2.2.2.1
def dX11_isSame_12 := dc_cX11_isSame_dX11_isSame_0_0.2.2.2.2.2.2.2.2.1
def dX11_isSame_15 := dc_cX11_isSame_dX11_isSame_0_0.2.2.2.2.2.2.2.2.2.1
def dX11_isSame_16 := dc_cX11_isSame_dX11_isSame_0_0.2.2.2.2.2.2.2.2.2.2.1
def dX11_isSame_19 := dc_cX11_isSame_dX11_isSame_0_0.2.2.2.2.2.2.2.2.2.2.2.1
def dX11_isSame_20 := dc_cX11_isSame_dX11_isSame_0_0.2.2.2.2.2.2.2.2.2.2.2.2.1
def dX11_isSame_21 := dc_cX11_isSame_dX11_isSame_0_0.2.2.2.2.2.2.2.2.2.2.2.2.2.1
def dX11_isSame_22 := dc_cX11_isSame_dX11_isSame_0_0.2.2.2.2.2.2.2.2.2.2.2.2.2.2.1
def dX11_isSame_25 := dc_cX11_isSame_dX11_isSame_0_0.2.2.2.2.2.2.2.2.2.2.2.2.2.2.2
set_option maxRecDepth 100000 in
theorem db_cX11_isSame_dX11_isSame_26_1 : zw [(26, .iaload, 1), (27, .if_icmp .ne 22, 3), (30, .aload_n 0, 1), (31, .getfield 16, 3), (34, .iload_n 1, 1), (35, .iaload, 1), (36, .aload_n 0, 1), (37, .getfield 16, 3), (40, .iload_n 2, 1), (41, .iaload, 1), (42, .if_icmp .ne 7, 3), (45, .iconst 1, 1), (46, .goto 4, 3), (49, .iconst 0, 1), (50, .istore_n 3, 1), (51, .iconst 0, 1)] (cX11_isSame.data.toList.drop 26) 26 = true := by decide +kernel
def dc_cX11_isSame_dX11_isSame_26_1 := zw_16 db_cX11_isSame_dX11_isSame_26_1
def dX11_isSame_26 := dc_cX11_isSame_dX11_isSame_26_1.1
def dX11_isSame_27 := dc_cX11_isSame_dX11_isSame_26_1.2.1
def dX11_isSame_30 := dc_cX11_isSame_dX11_isSame_26_1.2.2.1
def dX11_isSame_31 := dc_cX11_isSame_dX11_isSame_26_1.2.2.2.1
def dX11_isSame_34 := dc_cX11_isSame_dX11_isSame_26_1.2.2.2.2.1
def dX11_isSame_35 := dc_cX11_isSame_dX11_isSame_26_1.2.2.2.2.2.1
def dX11_isSame_36 := dc_cX11_isSame_dX11_isSame_26_1.2.2.2.2.2.2.1
def dX11_isSame_37 := dc_cX11_isSame_dX11_isSame_26_1.2.2.2.2.2.2.2.1
def dX11_isSame_40 := dc_cX11_isSame_dX11_isSame_26_1.2.2.2.2.2.2.2.2.1
def dX11_isSame_41 := dc_cX11_isSame_dX11_isSame_26_1.2.2.2.2.2.2.2.2.2.1
def dX11_isSame_42 := dc_cX11_isSame_dX11_isSame_26_1.2.2.2.2.2.2.2.2.2.2.1
def dX11_isSame_45 := dc_cX11_isSame_dX11_isSame_26_1.2.2.2.2.2.2.2.2.2.2.2.1
def dX11_isSame_46 := dc_cX11_isSame_dX11_isSame_26_1.2.2.2.2.2.2.2.2.2.2.2.2.1
def dX11_isSame_49 := dc_cX11_isSame_dX11_isSame_26_1.2.2.2.2.2.2.2.2.2.2.2.2.2.1
def dX11_isSame_50 := dc_cX11_isSame_dX11_isSame_26_1.2.2.2.2.2.2.2.2.2.2.2.2.2.2.1
def dX11_isSame_51 := dc_cX11_isSame_dX11_isSame_26_1.2.2.2.2.2.2.2.2.2.2.2.2.2.2.2
set_option maxRecDepth 100000 in
theorem db_cX11_isSame_dX11_isSame_52_2 : zw [(52, .istore 4, 2), (54, .iload 4, 2), (56, .bipush 21, 2), (58, .if_icmp .ge 48, 3), (61, .iload_n 3, 1), (62, .aload_n 0, 1), (63, .getfield 19, 3), (66, .iload_n 1, 1), (67, .iconst 0, 1), (68, .iconst 0, 1), (69, .invokestatic 36, 3), (72, .iload 4, 2), (74, .iadd, 1), (75, .iaload, 1), (76, .aload_n 0, 1), (77, .getfield 19, 3)] (cX11_isSame.data.toList.drop 52) 52 = true := by decide +kernel
def dc_cX11_isSame_dX11_isSame_52_2 := zw_16 db_cX11_isSame_dX11_isSame_52_2
def dX11_isSame_52 := dc_cX11_isSame_dX11_isSame_52_2.1
def dX11_isSame_54 := dc_cX11_isSame_dX11_isSame_52_2.2.1
def dX11_isSame_56 := dc_cX11_isSame_dX11_isSame_52_2.2.2.1
def dX11_isSame_58 := dc_cX11_isSame_dX11_isSame_52_2.2.2.2.1
def dX11_isSame_61 := dc_cX11_isSame_dX11_isSame_52_2.2.2.2.2.1
def dX11_isSame_62 := dc_cX11_isSame_dX11_isSame_52_2.2.2.2.2.2.1
def dX11_isSame_63 := dc_cX11_isSame_dX11_isSame_52_2.2.2.2.2.2.2.1
def dX11_isSame_66 := dc_cX11_isSame_dX11_isSame_52_2.2.2.2.2.2.2.2.1
def dX11_isSame_67 := dc_cX11_isSame_dX11_isSame_52_2.2.2.2.2.2.2.2.2.1
def dX11_isSame_68 := dc_cX11_isSame_dX11_isSame_52_2.2.2.2.2.2.2.2.2.2.1
def dX11_isSame_69 := dc_cX11_isSame_dX11_isSame_52_2.2.2.2.2.2.2.2.2.2.2.1
def dX11_isSame_72 := dc_cX11_isSame_dX11_isSame_52_2.2.2.2.2.2.2.2.2.2.2.2.1
def dX11_isSame_74 := dc_cX11_isSame_dX11_isSame_52_2.2.2.2.2.2.2.2.2.2.2.2.2.1
def dX11_isSame_75 := dc_cX11_isSame_dX11_isSame_52_2.2.2.2.2.2.2.2.2.2.2.2.2.2.1
def dX11_isSame_76 := dc_cX11_isSame_dX11_isSame_52_2.2.2.2.2.2.2.2.2.2.2.2.2.2.2.1
def dX11_isSame_77 := dc_cX11_isSame_dX11_isSame_52_2.2.2.2.2.2.2.2.2.2.2.2.2.2.2.2
set_option maxRecDepth 100000 in
theorem db_cX11_isSame_dX11_isSame_80_3 : zw [(80, .iload_n 2, 1), (81, .iconst 0, 1), (82, .iconst 0, 1), (83, .invokestatic 36, 3), (86, .iload 4, 2), (88, .iadd, 1), (89, .iaload, 1), (90, .if_icmp .ne 7, 3), (93, .iconst 1, 1), (94, .goto 4, 3), (97, .iconst 0, 1), (98, .iand, 1), (99, .istore_n 3, 1), (100, .iinc 4 1, 3), (103, .goto (-49), 3), (106, .iload_n 3, 1)] (cX11_isSame.data.toList.drop 80) 80 = true := by decide +kernel
def dc_cX11_isSame_dX11_isSame_80_3 := zw_16 db_cX11_isSame_dX11_isSame_80_3
def dX11_isSame_80 := dc_cX11_isSame_dX11_isSame_80_3.1
def dX11_isSame_81 := dc_cX11_isSame_dX11_isSame_80_3.2.1
def dX11_isSame_82 := dc_cX11_isSame_dX11_isSame_80_3.2.2.1
def dX11_isSame_83 := dc_cX11_isSame_dX11_isSame_80_3.2.2.2.1
def dX11_isSame_86 := dc_cX11_isSame_dX11_isSame_80_3.2.2.2.2.1
def dX11_isSame_88 := dc_cX11_isSame_dX11_isSame_80_3.2.2.2.2.2.1
def dX11_isSame_89 := dc_cX11_isSame_dX11_isSame_80_3.2.2.2.2.2.2.1
def dX11_isSame_90 := dc_cX11_isSame_dX11_isSame_80_3.2.2.2.2.2.2.2.1
def dX11_isSame_93 := dc_cX11_isSame_dX11_isSame_80_3.2.2.2.2.2.2.2.2.1
def dX11_isSame_94 := dc_cX11_isSame_dX11_isSame_80_3.2.2.2.2.2.2.2.2.2.1
def dX11_isSame_97 := dc_cX11_isSame_dX11_isSame_80_3.2.2.2.2.2.2.2.2.2.2.1
def dX11_isSame_98 := dc_cX11_isSame_dX11_isSame_80_3.2.2.2.2.2.2.2.2.2.2.2.1
def dX11_isSame_99 := dc_cX11_isSame_dX11_isSame_80_3.2.2.2.2.2.2.2.2.2.2.2.2.1
def dX11_isSame_100 := dc_cX11_isSame_dX11_isSame_80_3.2.2.2.2.2.2.2.2.2.2.2.2.2.1
def dX11_isSame_103 := dc_cX11_isSame_dX11_isSame_80_3.2.2.2.2.2.2.2.2.2.2.2.2.2.2.1
def dX11_isSame_106 := dc_cX11_isSame_dX11_isSame_80_3.2.2.2.2.2.2.2.2.2.2.2.2.2.2.2
set_option maxRecDepth 100000 in
theorem db_cX11_isSame_dX11_isSame_107_4 : zw [(107, .ireturn, 1)] (cX11_isSame.data.toList.drop 107) 107 = true := by decide +kernel
def dX11_isSame_107 := zw_1 db_cX11_isSame_dX11_isSame_107_4
set_option maxRecDepth 100000 in
theorem db_cX11_copy_dX11_copy_0_0 : zw [(0, .aload_n 0, 1), (1, .iload_n 1, 1), (2, .invokestatic 93, 3), (5, .ifCond .eq 14, 3), (8, .iload_n 2, 1), (9, .invokestatic 93, 3), (12, .ifCond .eq 7, 3), (15, .iconst 1, 1), (16, .goto 4, 3), (19, .iconst 0, 1), (20, .iconst 1, 1), (21, .invokevirtual 97, 3), (24, .ifCond .eq 5, 3), (27, .iconst 0, 1), (28, .ireturn, 1), (29, .aload_n 0, 1)] (cX11_copy.data.toList.drop 0) 0 = true := by decide +kernel
def dc_cX11_copy_dX11_copy_0_0 := zw_16 db_cX11_copy_dX11_copy_0_0
def dX11_copy_0 := dc_cX11_copy_dX11_copy_0_0.1
def dX11_copy_1 := dc_cX11_copy_dX11_copy_0_0.2.1
def dX11_copy_2 := dc_cX11_copy_dX11_copy_0_0.2.2.1
def dX11_copy_5 := dc_cX11_copy_dX11_copy_0_0.2.2.2.1
def dX11_copy_8 := dc_cX11_copy_dX11_copy_0_0.2.2.2.2.1
def dX11_copy_9 := dc_cX11_copy_dX11_copy_0_0.2.2.2.2.2.1
def dX11_copy_12 := dc_cX11_copy_dX11_copy_0_0.2.2.2.2.2.2.1
def dX11_copy_15 := dc_cX11_copy_dX11_copy_0_0.2.2.2.2.2.2.2.1
def dX11_copy_16 := dc_cX11_copy_dX11_copy_0_0.2.2.2.2.2.2.2.2.1
def dX11_copy_19 := dc_cX11_copy_dX11_copy_0_0.2.2.2.2.2.2.2.2.2.1
def dX11_copy_20 := dc_cX11_copy_dX11_copy_0_0.2.2.2.2.2.2.2.2.2.2.1
def dX11_copy_21 := dc_cX11_copy_dX11_copy_0_0.2.2.2.2.2.2.2.2.2.2.2.1
def dX11_copy_24 := dc_cX11_copy_dX11_copy_0_0.2.2.2.2.2.2.2.2.2.2.2.2.1
def dX11_copy_27 := dc_cX11_copy_dX11_copy_0_0.2.2.2.2.2.2.2.2.2.2.2.2.2.1
def dX11_copy_28 := dc_cX11_copy_dX11_copy_0_0.2.2.2.2.2.2.2.2.2.2.2.2.2.2.1
def dX11_copy_29 := dc_cX11_copy_dX11_copy_0_0.2.2.2.2.2.2.2.2.2.2.2.2.2.2.2
set_option maxRecDepth 100000 in
theorem db_cX11_copy_dX11_copy_30_1 : zw [(30, .iload_n 1, 1), (31, .iload_n 2, 1), (32, .invokevirtual 121, 3), (35, .istore_n 3, 1), (36, .aload_n 0, 1), (37, .getfield 7, 3), (40, .iload_n 2, 1), (41, .aload_n 0, 1), (42, .getfield 7, 3), (45, .iload_n 1, 1), (46, .iaload, 1), (47, .iastore, 1), (48, .aload_n 0, 1), (49, .getfield 13, 3), (52, .iload_n 2, 1), (53, .aload_n 0, 1)] (cX11_copy.data.toList.drop 30) 30 = true := by decide +kernel
def dc_cX11_copy_dX11_copy_30_1 := zw_16 db_cX11_copy_dX11_copy_30_1
def dX11_copy_30 := dc_cX11_copy_dX11_copy_30_1.1
def dX11_copy_31 := dc_cX11_copy_dX11_copy_30_1.2.1
def dX11_copy_32 := dc_cX11_copy_dX11_copy_30_1.2.2.1
def dX11_copy_35 := dc_cX11_copy_dX11_copy_30_1.2.2.2.1
def dX11_copy_36 := dc_cX11_copy_dX11_copy_30_1.2.2.2.2.1
def dX11_copy_37 := dc_cX11_copy_dX11_copy_30_1.2.2.2.2.2.1
def dX11_copy_40 := dc_cX11_copy_dX11_copy_30_1.2.2.2.2.2.2.1
def dX11_copy_41 := dc_cX11_copy_dX11_copy_30_1.2.2.2.2.2.2.2.1
def dX11_copy_42 := dc_cX11_copy_dX11_copy_30_1.2.2.2.2.2.2.2.2.1
def dX11_copy_45 := dc_cX11_copy_dX11_copy_30_1.2.2.2.2.2.2.2.2.2.1
def dX11_copy_46 := dc_cX11_copy_dX11_copy_30_1.2.2.2.2.2.2.2.2.2.2.1
def dX11_copy_47 := dc_cX11_copy_dX11_copy_30_1.2.2.2.2.2.2.2.2.2.2.2.1
def dX11_copy_48 := dc_cX11_copy_dX11_copy_30_1.2.2.2.2.2.2.2.2.2.2.2.2.1
def dX11_copy_49 := dc_cX11_copy_dX11_copy_30_1.2.2.2.2.2.2.2.2.2.2.2.2.2.1
def dX11_copy_52 := dc_cX11_copy_dX11_copy_30_1.2.2.2.2.2.2.2.2.2.2.2.2.2.2.1
def dX11_copy_53 := dc_cX11_copy_dX11_copy_30_1.2.2.2.2.2.2.2.2.2.2.2.2.2.2.2
set_option maxRecDepth 100000 in
theorem db_cX11_copy_dX11_copy_54_2 : zw [(54, .getfield 13, 3), (57, .iload_n 1, 1), (58, .iaload, 1), (59, .iastore, 1), (60, .aload_n 0, 1), (61, .getfield 16, 3), (64, .iload_n 2, 1), (65, .aload_n 0, 1), (66, .getfield 16, 3), (69, .iload_n 1, 1), (70, .iaload, 1), (71, .iastore, 1), (72, .iconst 0, 1), (73, .istore 4, 2), (75, .iload 4, 2), (77, .bipush 21, 2)] (cX11_copy.data.toList.drop 54) 54 = true := by decide +kernel
def dc_cX11_copy_dX11_copy_54_2 := zw_16 db_cX11_copy_dX11_copy_54_2
def dX11_copy_54 := dc_cX11_copy_dX11_copy_54_2.1
def dX11_copy_57 := dc_cX11_copy_dX11_copy_54_2.2.1
def dX11_copy_58 := dc_cX11_copy_dX11_copy_54_2.2.2.1
def dX11_copy_59 := dc_cX11_copy_dX11_copy_54_2.2.2.2.1
def dX11_copy_60 := dc_cX11_copy_dX11_copy_54_2.2.2.2.2.1
def dX11_copy_61 := dc_cX11_copy_dX11_copy_54_2.2.2.2.2.2.1
def dX11_copy_64 := dc_cX11_copy_dX11_copy_54_2.2.2.2.2.2.2.1
def dX11_copy_65 := dc_cX11_copy_dX11_copy_54_2.2.2.2.2.2.2.2.1
def dX11_copy_66 := dc_cX11_copy_dX11_copy_54_2.2.2.2.2.2.2.2.2.1
def dX11_copy_69 := dc_cX11_copy_dX11_copy_54_2.2.2.2.2.2.2.2.2.2.1
def dX11_copy_70 := dc_cX11_copy_dX11_copy_54_2.2.2.2.2.2.2.2.2.2.2.1
def dX11_copy_71 := dc_cX11_copy_dX11_copy_54_2.2.2.2.2.2.2.2.2.2.2.2.1
def dX11_copy_72 := dc_cX11_copy_dX11_copy_54_2.2.2.2.2.2.2.2.2.2.2.2.2.1
def dX11_copy_73 := dc_cX11_copy_dX11_copy_54_2.2.2.2.2.2.2.2.2.2.2.2.2.2.1
def dX11_copy_75 := dc_cX11_copy_dX11_copy_54_2.2.2.2.2.2.2.2.2.2.2.2.2.2.2.1
def dX11_copy_77 := dc_cX11_copy_dX11_copy_54_2.2.2.2.2.2.2.2.2.2.2.2.2.2.2.2
set_option maxRecDepth 100000 in
theorem db_cX11_copy_dX11_copy_79_3 : zw [(79, .if_icmp .ge 37, 3), (82, .aload_n 0, 1), (83, .getfield 19, 3), (86, .iload_n 2, 1), (87, .iconst 0, 1), (88, .iconst 0, 1), (89, .invokestatic 36, 3), (92, .iload 4, 2), (94, .iadd, 1), (95, .aload_n 0, 1), (96, .getfield 19, 3), (99, .iload_n 1, 1), (100, .iconst 0, 1), (101, .iconst 0, 1), (102, .invokestatic 36, 3), (105, .iload 4, 2)] (cX11_copy.data.toList.drop 79) 79 = true := by decide +kernel
def dc_cX11_copy_dX11_copy_79_3 := zw_16 db_cX11_copy_dX11_copy_79_3
def dX11_copy_79 := dc_cX11_copy_dX11_copy_79_3.1
def dX11_copy_82 := dc_cX11_copy_dX11_copy_79_3.2.1
def dX11_copy_83 := dc_cX11_copy_dX11_copy_79_3.2.2.1
def dX11_copy_86 := dc_cX11_copy_dX11_copy_79_3.2.2.2.1
def dX11_copy_87 := dc_cX11_copy_dX11_copy_79_3.2.2.2.2.1
def dX11_copy_88 := dc_cX11_copy_dX11_copy_79_3.2.2.2.2.2.1
def dX11_copy_89 := dc_cX11_copy_dX11_copy_79_3.2.2.2.2.2.2.1
def dX11_copy_92 := dc_cX11_copy_dX11_copy_79_3.2.2.2.2.2.2.2.1
def dX11_copy_94 := dc_cX11_copy_dX11_copy_79_3.2.2.2.2.2.2.2.2.1
def dX11_copy_95 := dc_cX11_copy_dX11_copy_79_3.2.2.2.2.2.2.2.2.2.1
def dX11_copy_96 := dc_cX11_copy_dX11_copy_79_3.2.2.2.2.2.2.2.2.2.2.1
def dX11_copy_99 := dc_cX11_copy_dX11_copy_79_3.2.2.2.2.2.2.2.2.2.2.2.1
def dX11_copy_100 := dc_cX11_copy_dX11_copy_79_3.2.2.2.2.2.2.2.2.2.2.2.2.1
def dX11_copy_101 := dc_cX11_copy_dX11_copy_79_3.2.2.2.2.2.2.2.2.2.2.2.2.2.1
def dX11_copy_102 := dc_cX11_copy_dX11_copy_79_3.2.2.2.2.2.2.2.2.2.2.2.2.2.2.1
def dX11_copy_105 := dc_cX11_copy_dX11_copy_79_3.2.2.2.2.2.2.2.2.2.2.2.2.2.2.2
set_option maxRecDepth 100000 in
theorem db_cX11_copy_dX11_copy_107_4 : zw [(107, .iadd, 1), (108, .iaload, 1), (109, .iastore, 1), (110, .iinc 4 1, 3), (113, .goto (-38), 3), (116, .aload_n 0, 1), (117, .iload_n 3, 1), (118, .ifCond .eq 7, 3), (121, .iconst 0, 1), (122, .goto 4, 3), (125, .iconst 1, 1), (126, .invokevirtual 108, 3), (129, .ireturn, 1)] (cX11_copy.data.toList.drop 107) 107 = true := by decide +kernel
def dc_cX11_copy_dX11_copy_107_4 := zw_13 db_cX11_copy_dX11_copy_107_4
def dX11_copy_107 := dc_cX11_copy_dX11_copy_107_4.1
def dX11_copy_108 := dc_cX11_copy_dX11_copy_107_4.2.1
def dX11_copy_109 := dc_cX11_copy_dX11_copy_107_4.2.2.1
def dX11_copy_110 := dc_cX11_copy_dX11_copy_107_4.2.2.2.1
def dX11_copy_113 := dc_cX11_copy_dX11_copy_107_4.2.2.2.2.1
def dX11_copy_116 := dc_cX11_copy_dX11_copy_107_4.2.2.2.2.2.1
def dX11_copy_117 := dc_cX11_copy_dX11_copy_107_4.2.2.2.2.2.2.1
def dX11_copy_118 := dc_cX11_copy_dX11_copy_107_4.2.2.2.2.2.2.2.1
def dX11_copy_121 := dc_cX11_copy_dX11_copy_107_4.2.2.2.2.2.2.2.2.1
def dX11_copy_122 := dc_cX11_copy_dX11_copy_107_4.2.2.2.2.2.2.2.2.2.1
def dX11_copy_125 := dc_cX11_copy_dX11_copy_107_4.2.2.2.2.2.2.2.2.2.2.1
def dX11_copy_126 := dc_cX11_copy_dX11_copy_107_4.2.2.2.2.2.2.2.2.2.2.2.1
def dX11_copy_129 := dc_cX11_copy_dX11_copy_107_4.2.2.2.2.2.2.2.2.2.2.2.2
set_option maxRecDepth 100000 in
theorem db_cX11_exchange_dX11_exchange_0_0 : zw [(0, .aload_n 0, 1), (1, .iload_n 1, 1), (2, .iaload, 1), (3, .istore_n 3, 1), (4, .aload_n 0, 1), (5, .iload_n 1, 1), (6, .aload_n 0, 1), (7, .iload_n 2, 1), (8, .iaload, 1), (9, .iastore, 1), (10, .aload_n 0, 1), (11, .iload_n 2, 1), (12, .iload_n 3, 1), (13, .iastore, 1), (14, .return_, 1)] (cX11_exchange.data.toList.drop 0) 0 = true := by decide +kernel
def dc_cX11_exchange_dX11_exchange_0_0 := zw_15 db_cX11_exchange_dX11_exchange_0_0
def dX11_exchange_0 := dc_cX11_exchange_dX11_exchange_0_0.1
def dX11_exchange_1 := dc_cX11_exchange_dX11_exchange_0_0.2.1
def dX11_exchange_2 := dc_cX11_exchange_dX11_exchange_0_0.2.2.1
def dX11_exchange_3 := dc_cX11_exchange_dX11_exchange_0_0.2.2.2.1
def dX11_exchange_4 := dc_cX11_exchange_dX11_exchange_0_0.2.2.2.2.1
def dX11_exchange_5 := dc_cX11_exchange_dX11_exchange_0_0.2.2.2.2.2.1
def dX11_exchange_6 := dc_cX11_exchange_dX11_exchange_0_0.2.2.2.2.2.2.1
def dX11_exchange_7 := dc_cX11_exchange_dX11_exchange_0_0.2.2.2.2.2.2.2.1
def dX11_exchange_8 := dc_cX11_exchange_dX11_exchange_0_0.2.2.2.2.2.2.2.2.1
def dX11_exchange_9 := dc_cX11_exchange_dX11_exchange_0_0.2.2.2.2.2.2.2.2.2.1
def dX11_exchange_10 := dc_cX11_exchange_dX11_exchange_0_0.2.2.2.2.2.2.2.2.2.2.1
def dX11_exchange_11 := dc_cX11_exchange_dX11_exchange_0_0.2.2.2.2.2.2.2.2.2.2.2.1
def dX11_exchange_12 := dc_cX11_exchange_dX11_exchange_0_0.2.2.2.2.2.2.2.2.2.2.2.2.1
def dX11_exchange_13 := dc_cX11_exchange_dX11_exchange_0_0.2.2.2.2.2.2.2.2.2.2.2.2.2.1
def dX11_exchange_14 := dc_cX11_exchange_dX11_exchange_0_0.2.2.2.2.2.2.2.2.2.2.2.2.2.2
set_option maxRecDepth 100000 in
theorem db_cX11_swap_dX11_swap_0_0 : zw [(0, .aload_n 0, 1), (1, .iload_n 1, 1), (2, .invokestatic 93, 3), (5, .ifCond .eq 14, 3), (8, .iload_n 2, 1), (9, .invokestatic 93, 3), (12, .ifCond .eq 7, 3), (15, .iconst 1, 1), (16, .goto 4, 3), (19, .iconst 0, 1), (20, .iconst 1, 1), (21, .invokevirtual 97, 3), (24, .ifCond .eq 5, 3), (27, .iconst 0, 1), (28, .ireturn, 1), (29, .aload_n 0, 1)] (cX11_swap.data.toList.drop 0) 0 = true := by decide +kernel
def dc_cX11_swap_dX11_swap_0_0 := zw_16 db_cX11_swap_dX11_swap_0_0
def dX11_swap_0 := dc_cX11_swap_dX11_swap_0_0.1
def dX11_swap_1 := dc_cX11_swap_dX11_swap_0_0.2.1
def dX11_swap_2 := dc_cX11_swap_dX11_swap_0_0.2.2.1
def dX11_swap_5 := dc_cX11_swap_dX11_swap_0_0.2.2.2.1
def dX11_swap_8 := dc_cX11_swap_dX11_swap_0_0.2.2.2.2.1
def dX11_swap_9 := dc_cX11_swap_dX11_swap_0_0.2.2.2.2.2.1
def dX11_swap_12 := dc_cX11_swap_dX11_swap_0_0.2.2.2.2.2.2.1
def dX11_swap_15 := dc_cX11_swap_dX11_swap_0_0.2.2.2.2.2.2.2.1
def dX11_swap_16 := dc_cX11_swap_dX11_swap_0_0.2.2.2.2.2.2.2.2.1
def dX11_swap_19 := dc_cX11_swap_dX11_swap_0_0.2.2.2.2.2.2.2.2.2.1
def dX11_swap_20 := dc_cX11_swap_dX11_swap_0_0.2.2.2.2.2.2.2.2.2.2.1
def dX11_swap_21 := dc_cX11_swap_dX11_swap_0_0.2.2.2.2.2.2.2.2.2.2.2.1
def dX11_swap_24 := dc_cX11_swap_dX11_swap_0_0.2.2.2.2.2.2.2.2.2.2.2.2.1
def dX11_swap_27 := dc_cX11_swap_dX11_swap_0_0.2.2.2.2.2.2.2.2.2.2.2.2.2.1
def dX11_swap_28 := dc_cX11_swap_dX11_swap_0_0.2.2.2.2.2.2.2.2.2.2.2.2.2.2.1
def dX11_swap_29 := dc_cX11_swap_dX11_swap_0_0.2.2.2.2.2.2.2.2.2.2.2.2.2.2.2
set_option maxRecDepth 100000 in
theorem db_cX11_swap_dX11_swap_30_1 : zw [(30, .iload_n 1, 1), (31, .iload_n 2, 1), (32, .invokevirtual 121, 3), (35, .istore_n 3, 1), (36, .aload_n 0, 1), (37, .getfield 7, 3), (40, .iload_n 1, 1), (41, .iload_n 2, 1), (42, .invokestatic 124, 3), (45, .aload_n 0, 1), (46, .getfield 13, 3), (49, .iload_n 1, 1), (50, .iload_n 2, 1), (51, .invokestatic 124, 3), (54, .aload_n 0, 1), (55, .getfield 16, 3)] (cX11_swap.data.toList.drop 30) 30 = true := by decide +kernel
def dc_cX11_swap_dX11_swap_30_1 := zw_16 db_cX11_swap_dX11_swap_30_1
def dX11_swap_30 := dc_cX11_swap_dX11_swap_30_1.1
def dX11_swap_31 := dc_cX11_swap_dX11_swap_30_1.2.1
def dX11_swap_32 := dc_cX11_swap_dX11_swap_30_1.2.2.1
def dX11_swap_35 := dc_cX11_swap_dX11_swap_30_1.2.2.2.1
def dX11_swap_36 := dc_cX11_swap_dX11_swap_30_1.2.2.2.2.1
def dX11_swap_37 := dc_cX11_swap_dX11_swap_30_1.2.2.2.2.2.1
def dX11_swap_40 := dc_cX11_swap_dX11_swap_30_1.2.2.2.2.2.2.1
def dX11_swap_41 := dc_cX11_swap_dX11_swap_30_1.2.2.2.2.2.2.2.1
def dX11_swap_42 := dc_cX11_swap_dX11_swap_30_1.2.2.2.2.2.2.2.2.1
def dX11_swap_45 := dc_cX11_swap_dX11_swap_30_1.2.2.2.2.2.2.2.2.2.1
def dX11_swap_46 := dc_cX11_swap_dX11_swap_30_1.2.2.2.2.2.2.2.2.2.2.1
def dX11_swap_49 := dc_cX11_swap_dX11_swap_30_1.2.2.2.2.2.2.2.2.2.2.2.1
def dX11_swap_50 := dc_cX11_swap_dX11_swap_30_1.2.2.2.2.2.2.2.2.2.2.2.2.1
def dX11_swap_51 := dc_cX11_swap_dX11_swap_30_1.2.2.2.2.2.2.2.2.2.2.2.2.2.1
def dX11_swap_54 := dc_cX11_swap_dX11_swap_30_1.2.2.2.2.2.2.2.2.2.2.2.2.2.2.1
def dX11_swap_55 := dc_cX11_swap_dX11_swap_30_1.2.2.2.2.2.2.2.2.2.2.2.2.2.2.2
set_option maxRecDepth 100000 in
theorem db_cX11_swap_dX11_swap_58_2 : zw [(58, .iload_n 1, 1), (59, .iload_n 2, 1), (60, .invokestatic 124, 3), (63, .iconst 0, 1), (64, .istore 4, 2), (66, .iload 4, 2), (68, .bipush 21, 2), (70, .if_icmp .ge 34, 3), (73, .aload_n 0, 1), (74, .getfield 19, 3), (77, .iload_n 1, 1), (78, .iconst 0, 1), (79, .iconst 0, 1), (80, .invokestatic 36, 3), (83, .iload 4, 2), (85, .iadd, 1)] (cX11_swap.data.toList.drop 58) 58 = true := by decide +kernel
def dc_cX11_swap_dX11_swap_58_2 := zw_16 db_cX11_swap_dX11_swap_58_2
def dX11_swap_58 := dc_cX11_swap_dX11_swap_58_2.1
def dX11_swap_59 := dc_cX11_swap_dX11_swap_58_2.2.1
def dX11_swap_60 := dc_cX11_swap_dX11_swap_58_2.2.2.1
def dX11_swap_63 := dc_cX11_swap_dX11_swap_58_2.2.2.2.1
def dX11_swap_64 := dc_cX11_swap_dX11_swap_58_2.2.2.2.2.1
def dX11_swap_66 := dc_cX11_swap_dX11_swap_58_2.2.2.2.2.2.1
def dX11_swap_68 := dc_cX11_swap_dX11_swap_58_2.2.2.2.2.2.2.1
def dX11_swap_70 := dc_cX11_swap_dX11_swap_58_2.2.2.2.2.2.2.2.1
def dX11_swap_73 := dc_cX11_swap_dX11_swap_58_2.2.2.2.2.2.2.2.2.1
def dX11_swap_74 := dc_cX11_swap_dX11_swap_58_2.2.2.2.2.2.2.2.2.2.1
def dX11_swap_77 := dc_cX11_swap_dX11_swap_58_2.2.2.2.2.2.2.2.2.2.2.1
def dX11_swap_78 := dc_cX11_swap_dX11_swap_58_2.2.2.2.2.2.2.2.2.2.2.2.1
def dX11_swap_79 := dc_cX11_swap_dX11_swap_58_2.2.2.2.2.2.2.2.2.2.2.2.2.1
def dX11_swap_80 := dc_cX11_swap_dX11_swap_58_2.2.2.2.2.2.2.2.2.2.2.2.2.2.1
def dX11_swap_83 := dc_cX11_swap_dX11_swap_58_2.2.2.2.2.2.2.2.2.2.2.2.2.2.2.1
def dX11_swap_85 := dc_cX11_swap_dX11_swap_58_2.2.2.2.2.2.2.2.2.2.2.2.2.2.2.2
set_option maxRecDepth 100000 in
theorem db_cX11_swap_dX11_swap_86_3 : zw [(86, .iload_n 2, 1), (87, .iconst 0, 1), (88, .iconst 0, 1), (89, .invokestatic 36, 3), (92, .iload 4, 2), (94, .iadd, 1), (95, .invokestatic 124, 3), (98, .iinc 4 1, 3), (101, .goto (-35), 3), (104, .aload_n 0, 1), (105, .iload_n 3, 1), (106, .ifCond .eq 7, 3), (109, .iconst 0, 1), (110, .goto 4, 3), (113, .iconst 1, 1), (114, .invokevirtual 108, 3)] (cX11_swap.data.toList.drop 86) 86 = true := by decide +kernel
def dc_cX11_swap_dX11_swap_86_3 := zw_16 db_cX11_swap_dX11_swap_86_3
def dX11_swap_86 := dc_cX11_swap_dX11_swap_86_3.1
def dX11_swap_87 := dc_cX11_swap_dX11_swap_86_3.2.1
def dX11_swap_88 := dc_cX11_swap_dX11_swap_86_3.2.2.1
def dX11_swap_89 := dc_cX11_swap_dX11_swap_86_3.2.2.2.1
def dX11_swap_92 := dc_cX11_swap_dX11_swap_86_3.2.2.2.2.1
def dX11_swap_94 := dc_cX11_swap_dX11_swap_86_3.2.2.2.2.2.1
def dX11_swap_95 := dc_cX11_swap_dX11_swap_86_3.2.2.2.2.2.2.1
def dX11_swap_98 := dc_cX11_swap_dX11_swap_86_3.2.2.2.2.2.2.2.1
def dX11_swap_101 := dc_cX11_swap_dX11_swap_86_3.2.2.2.2.2.2.2.2.1
def dX11_swap_104 := dc_cX11_swap_dX11_swap_86_3.2.2.2.2.2.2.2.2.2.1
def dX11_swap_105 := dc_cX11_swap_dX11_swap_86_3.2.2.2.2.2.2.2.2.2.2.1
def dX11_swap_106 := dc_cX11_swap_dX11_swap_86_3.2.2.2.2.2.2.2.2.2.2.2.1
def dX11_swap_109 := dc_cX11_swap_dX11_swap_86_3.2.2.2.2.2.2.2.2.2.2.2.2.1
def dX11_swap_110 := dc_cX11_swap_dX11_swap_86_3.2.2.2.2.2.2.2.2.2.2.2.2.2.1
def dX11_swap_113 := dc_cX11_swap_dX11_swap_86_3.2.2.2.2.2.2.2.2.2.2.2.2.2.2.1
def dX11_swap_114 := dc_cX11_swap_dX11_swap_86_3.2.2.2.2.2.2.2.2.2.2.2.2.2.2.2
set_option maxRecDepth 100000 in
theorem db_cX11_swap_dX11_swap_117_4 : zw [(117, .ireturn, 1)] (cX11_swap.data.toList.drop 117) 117 = true := by decide +kernel
def dX11_swap_117 := zw_1 db_cX11_swap_dX11_swap_117_4
set_option maxRecDepth 100000 in
theorem db_cX11_turn_dX11_turn_0_0 : zw [(0, .aload_n 0, 1), (1, .iload_n 1, 1), (2, .invokestatic 93, 3), (5, .iconst 1, 1), (6, .invokevirtual 97, 3), (9, .ifCond .eq 5, 3), (12, .iconst 0, 1), (13, .ireturn, 1), (14, .aload_n 0, 1), (15, .iload_n 1, 1), (16, .invokevirtual 54, 3), (19, .astore_n 2, 1), (20, .iconst 0, 1), (21, .istore_n 3, 1), (22, .iload_n 3, 1), (23, .aload_n 0, 1)] (cX11_turn.data.toList.drop 0) 0 = true := by decide +kernel
def dc_cX11_turn_dX11_turn_0_0 := zw_16 db_cX11_turn_dX11_turn_0_0
def dX11_turn_0 := dc_cX11_turn_dX11_turn_0_0.1
def dX11_turn_1 := dc_cX11_turn_dX11_turn_0_0.2.1
def dX11_turn_2 := dc_cX11_turn_dX11_turn_0_0.2.2.1
def dX11_turn_5 := dc_cX11_turn_dX11_turn_0_0.2.2.2.1
def dX11_turn_6 := dc_cX11_turn_dX11_turn_0_0.2.2.2.2.1
def dX11_turn_9 := dc_cX11_turn_dX11_turn_0_0.2.2.2.2.2.1
def dX11_turn_12 := dc_cX11_turn_dX11_turn_0_0.2.2.2.2.2.2.1
def dX11_turn_13 := dc_cX11_turn_dX11_turn_0_0.2.2.2.2.2.2.2.1
def dX11_turn_14 := dc_cX11_turn_dX11_turn_0_0.2.2.2.2.2.2.2.2.1
def dX11_turn_15 := dc_cX11_turn_dX11_turn_0_0.2.2.2.2.2.2.2.2.2.1
def dX11_turn_16 := dc_cX11_turn_dX11_turn_0_0.2.2.2.2.2.2.2.2.2.2.1
def dX11_turn_19 := dc_cX11_turn_dX11_turn_0_0.2.2.2.2.2.2.2.2.2.2.2.1
def dX11_turn_20 := dc_cX11_turn_dX11_turn_0_0.2.2.2.2.2.2.2.2.2.2.2.2.1
def dX11_turn_21 := dc_cX11_turn_dX11_turn_0_0.2.2.2.2.2.2.2.2.2.2.2.2.2.1
def dX11_turn_22 := dc_cX11_turn_dX11_turn_0_0.2.2.2.2.2.2.2.2.2.2.2.2.2.2.1
def dX11_turn_23 := dc_cX11_turn_dX11_turn_0_0.2.2.2.2.2.2.2.2.2.2.2.2.2.2.2
set_option maxRecDepth 100000 in
theorem db_cX11_turn_dX11_turn_24_1 : zw [(24, .getfield 7, 3), (27, .iload_n 1, 1), (28, .iaload, 1), (29, .if_icmp .ge 53, 3), (32, .iconst 0, 1), (33, .istore 4, 2), (35, .iload 4, 2), (37, .iconst 3, 1), (38, .if_icmp .ge 38, 3), (41, .aload_n 0, 1), (42, .getfield 19, 3), (45, .iload_n 1, 1), (46, .iload_n 3, 1), (47, .iload 4, 2), (49, .invokestatic 36, 3), (52, .aload_n 2, 1)] (cX11_turn.data.toList.drop 24) 24 = true := by decide +kernel
def dc_cX11_turn_dX11_turn_24_1 := zw_16 db_cX11_turn_dX11_turn_24_1
def dX11_turn_24 := dc_cX11_turn_dX11_turn_24_1.1
def dX11_turn_27 := dc_cX11_turn_dX11_turn_24_1.2.1
def dX11_turn_28 := dc_cX11_turn_dX11_turn_24_1.2.2.1
def dX11_turn_29 := dc_cX11_turn_dX11_turn_24_1.2.2.2.1
def dX11_turn_32 := dc_cX11_turn_dX11_turn_24_1.2.2.2.2.1
def dX11_turn_33 := dc_cX11_turn_dX11_turn_24_1.2.2.2.2.2.1
def dX11_turn_35 := dc_cX11_turn_dX11_turn_24_1.2.2.2.2.2.2.1
def dX11_turn_37 := dc_cX11_turn_dX11_turn_24_1.2.2.2.2.2.2.2.1
def dX11_turn_38 := dc_cX11_turn_dX11_turn_24_1.2.2.2.2.2.2.2.2.1
def dX11_turn_41 := dc_cX11_turn_dX11_turn_24_1.2.2.2.2.2.2.2.2.2.1
def dX11_turn_42 := dc_cX11_turn_dX11_turn_24_1.2.2.2.2.2.2.2.2.2.2.1
def dX11_turn_45 := dc_cX11_turn_dX11_turn_24_1.2.2.2.2.2.2.2.2.2.2.2.1
def dX11_turn_46 := dc_cX11_turn_dX11_turn_24_1.2.2.2.2.2.2.2.2.2.2.2.2.1
def dX11_turn_47 := dc_cX11_turn_dX11_turn_24_1.2.2.2.2.2.2.2.2.2.2.2.2.2.1
def dX11_turn_49 := dc_cX11_turn_dX11_turn_24_1.2.2.2.2.2.2.2.2.2.2.2.2.2.2.1
def dX11_turn_52 := dc_cX11_turn_dX11_turn_24_1.2.2.2.2.2.2.2.2.2.2.2.2.2.2.2
set_option maxRecDepth 100000 in
theorem db_cX11_turn_dX11_turn_53_2 : zw [(53, .aload_n 0, 1), (54, .getfield 7, 3), (57, .iload_n 1, 1), (58, .iaload, 1), (59, .lconst 1, 1), (60, .iload_n 3, 1), (61, .lshl, 1), (62, .iload 4, 2), (64, .iconst 1, 1), (65, .invokestatic 46, 3), (68, .l2i, 1), (69, .iastore, 1), (70, .iinc 4 1, 3), (73, .goto (-38), 3), (76, .iinc 3 1, 3), (79, .goto (-57), 3)] (cX11_turn.data.toList.drop 53) 53 = true := by decide +kernel
def dc_cX11_turn_dX11_turn_53_2 := zw_16 db_cX11_turn_dX11_turn_53_2
def dX11_turn_53 := dc_cX11_turn_dX11_turn_53_2.1
def dX11_turn_54 := dc_cX11_turn_dX11_turn_53_2.2.1
def dX11_turn_57 := dc_cX11_turn_dX11_turn_53_2.2.2.1
def dX11_turn_58 := dc_cX11_turn_dX11_turn_53_2.2.2.2.1
def dX11_turn_59 := dc_cX11_turn_dX11_turn_53_2.2.2.2.2.1
def dX11_turn_60 := dc_cX11_turn_dX11_turn_53_2.2.2.2.2.2.1
def dX11_turn_61 := dc_cX11_turn_dX11_turn_53_2.2.2.2.2.2.2.1
def dX11_turn_62 := dc_cX11_turn_dX11_turn_53_2.2.2.2.2.2.2.2.1
def dX11_turn_64 := dc_cX11_turn_dX11_turn_53_2.2.2.2.2.2.2.2.2.1
def dX11_turn_65 := dc_cX11_turn_dX11_turn_53_2.2.2.2.2.2.2.2.2.2.1
def dX11_turn_68 := dc_cX11_turn_dX11_turn_53_2.2.2.2.2.2.2.2.2.2.2.1
def dX11_turn_69 := dc_cX11_turn_dX11_turn_53_2.2.2.2.2.2.2.2.2.2.2.2.1
def dX11_turn_70 := dc_cX11_turn_dX11_turn_53_2.2.2.2.2.2.2.2.2.2.2.2.2.1
def dX11_turn_73 := dc_cX11_turn_dX11_turn_53_2.2.2.2.2.2.2.2.2.2.2.2.2.2.1
def dX11_turn_76 := dc_cX11_turn_dX11_turn_53_2.2.2.2.2.2.2.2.2.2.2.2.2.2.2.1
def dX11_turn_79 := dc_cX11_turn_dX11_turn_53_2.2.2.2.2.2.2.2.2.2.2.2.2.2.2.2
set_option maxRecDepth 100000 in
theorem db_cX11_turn_dX11_turn_82_3 : zw [(82, .aload_n 0, 1), (83, .getfield 13, 3), (86, .iload_n 1, 1), (87, .iaload, 1), (88, .istore_n 3, 1), (89, .aload_n 0, 1), (90, .getfield 13, 3), (93, .iload_n 1, 1), (94, .aload_n 0, 1), (95, .getfield 16, 3), (98, .iload_n 1, 1), (99, .iaload, 1), (100, .iastore, 1), (101, .aload_n 0, 1), (102, .getfield 16, 3), (105, .iload_n 1, 1)] (cX11_turn.data.toList.drop 82) 82 = true := by decide +kernel
def dc_cX11_turn_dX11_turn_82_3 := zw_16 db_cX11_turn_dX11_turn_82_3
def dX11_turn_82 := dc_cX11_turn_dX11_turn_82_3.1
def dX11_turn_83 := dc_cX11_turn_dX11_turn_82_3.2.1
def dX11_turn_86 := dc_cX11_turn_dX11_turn_82_3.2.2.1
def dX11_turn_87 := dc_cX11_turn_dX11_turn_82_3.2.2.2.1
def dX11_turn_88 := dc_cX11_turn_dX11_turn_82_3.2.2.2.2.1
def dX11_turn_89 := dc_cX11_turn_dX11_turn_82_3.2.2.2.2.2.1
def dX11_turn_90 := dc_cX11_turn_dX11_turn_82_3.2.2.2.2.2.2.1
def dX11_turn_93 := dc_cX11_turn_dX11_turn_82_3.2.2.2.2.2.2.2.1
def dX11_turn_94 := dc_cX11_turn_dX11_turn_82_3.2.2.2.2.2.2.2.2.1
def dX11_turn_95 := dc_cX11_turn_dX11_turn_82_3.2.2.2.2.2.2.2.2.2.1
def dX11_turn_98 := dc_cX11_turn_dX11_turn_82_3.2.2.2.2.2.2.2.2.2.2.1
def dX11_turn_99 := dc_cX11_turn_dX11_turn_82_3.2.2.2.2.2.2.2.2.2.2.2.1
def dX11_turn_100 := dc_cX11_turn_dX11_turn_82_3.2.2.2.2.2.2.2.2.2.2.2.2.1
def dX11_turn_101 := dc_cX11_turn_dX11_turn_82_3.2.2.2.2.2.2.2.2.2.2.2.2.2.1
def dX11_turn_102 := dc_cX11_turn_dX11_turn_82_3.2.2.2.2.2.2.2.2.2.2.2.2.2.2.1
def dX11_turn_105 := dc_cX11_turn_dX11_turn_82_3.2.2.2.2.2.2.2.2.2.2.2.2.2.2.2
set_option maxRecDepth 100000 in
theorem db_cX11_turn_dX11_turn_106_4 : zw [(106, .iload_n 3, 1), (107, .iastore, 1), (108, .aload_n 0, 1), (109, .aload_n 0, 1), (110, .iload_n 1, 1), (111, .invokevirtual 101, 3), (114, .invokevirtual 108, 3), (117, .ireturn, 1)] (cX11_turn.data.toList.drop 106) 106 = true := by decide +kernel
def dc_cX11_turn_dX11_turn_106_4 := zw_8 db_cX11_turn_dX11_turn_106_4
def dX11_turn_106 := dc_cX11_turn_dX11_turn_106_4.1
def dX11_turn_107 := dc_cX11_turn_dX11_turn_106_4.2.1
def dX11_turn_108 := dc_cX11_turn_dX11_turn_106_4.2.2.1
def dX11_turn_109 := dc_cX11_turn_dX11_turn_106_4.2.2.2.1
def dX11_turn_110 := dc_cX11_turn_dX11_turn_106_4.2.2.2.2.1
def dX11_turn_111 := dc_cX11_turn_dX11_turn_106_4.2.2.2.2.2.1
def dX11_turn_114 := dc_cX11_turn_dX11_turn_106_4.2.2.2.2.2.2.1
def dX11_turn_117 := dc_cX11_turn_dX11_turn_106_4.2.2.2.2.2.2.2
set_option maxRecDepth 100000 in
theorem db_cX11_other_dX11_other_0_0 : zw [(0, .aload_n 0, 1), (1, .iload_n 1, 1), (2, .invokestatic 93, 3), (5, .iconst 1, 1), (6, .invokevirtual 97, 3), (9, .ifCond .eq 5, 3), (12, .iconst 0, 1), (13, .ireturn, 1), (14, .aload_n 0, 1), (15, .iload_n 1, 1), (16, .invokevirtual 128, 3), (19, .ifCond .ne 8, 3), (22, .aload_n 0, 1), (23, .invokevirtual 131, 3), (26, .ireturn, 1), (27, .aload_n 0, 1)] (cX11_other.data.toList.drop 0) 0 = true := by decide +kernel
def dc_cX11_other_dX11_other_0_0 := zw_16 db_cX11_other_dX11_other_0_0
def dX11_other_0 := dc_cX11_other_dX11_other_0_0.1
def dX11_other_1 := dc_cX11_other_dX11_other_0_0.2.1
def dX11_other_2 := dc_cX11_other_dX11_other_0_0.2.2.1
def dX11_other_5 := dc_cX11_other_dX11_other_0_0.2.2.2.1
def dX11_other_6 := dc_cX11_other_dX11_other_0_0.2.2.2.2.1
def dX11_other_9 := dc_cX11_other_dX11_other_0_0.2.2.2.2.2.1
def dX11_other_12 := dc_cX11_other_dX11_other_0_0.2.2.2.2.2.2.1
def dX11_other_13 := dc_cX11_other_dX11_other_0_0.2.2.2.2.2.2.2.1
def dX11_other_14 := dc_cX11_other_dX11_other_0_0.2.2.2.2.2.2.2.2.1
def dX11_other_15 := dc_cX11_other_dX11_other_0_0.2.2.2.2.2.2.2.2.2.1
def dX11_other_16 := dc_cX11_other_dX11_other_0_0.2.2.2.2.2.2.2.2.2.2.1
def dX11_other_19 := dc_cX11_other_dX11_other_0_0.2.2.2.2.2.2.2.2.2.2.2.1
def dX11_other_22 := dc_cX11_other_dX11_other_0_0.2.2.2.2.2.2.2.2.2.2.2.2.1
def dX11_other_23 := dc_cX11_other_dX11_other_0_0.2.2.2.2.2.2.2.2.2.2.2.2.2.1
def dX11_other_26 := dc_cX11_other_dX11_other_0_0.2.2.2.2.2.2.2.2.2.2.2.2.2.2.1
def dX11_other_27 := dc_cX11_other_dX11_other_0_0.2.2.2.2.2.2.2.2.2.2.2.2.2.2.2
set_option maxRecDepth 100000 in
theorem db_cX11_other_dX11_other_28_1 : zw [(28, .getfield 16, 3), (31, .iload_n 1, 1), (32, .dup2, 1), (33, .iaload, 1), (34, .iconst 1, 1), (35, .aload_n 0, 1), (36, .getfield 7, 3), (39, .iload_n 1, 1), (40, .iaload, 1), (41, .ishl, 1), (42, .iconst 1, 1), (43, .isub, 1), (44, .ixor, 1), (45, .iastore, 1), (46, .aload_n 0, 1), (47, .aload_n 0, 1)] (cX11_other.data.toList.drop 28) 28 = true := by decide +kernel
def dc_cX11_other_dX11_other_28_1 := zw_16 db_cX11_other_dX11_other_28_1
def dX11_other_28 := dc_cX11_other_dX11_other_28_1.1
def dX11_other_31 := dc_cX11_other_dX11_other_28_1.2.1
def dX11_other_32 := dc_cX11_other_dX11_other_28_1.2.2.1
def dX11_other_33 := dc_cX11_other_dX11_other_28_1.2.2.2.1
def dX11_other_34 := dc_cX11_other_dX11_other_28_1.2.2.2.2.1
def dX11_other_35 := dc_cX11_other_dX11_other_28_1.2.2.2.2.2.1
def dX11_other_36 := dc_cX11_other_dX11_other_28_1.2.2.2.2.2.2.1
def dX11_other_39 := dc_cX11_other_dX11_other_28_1.2.2.2.2.2.2.2.1
def dX11_other_40 := dc_cX11_other_dX11_other_28_1.2.2.2.2.2.2.2.2.1
def dX11_other_41 := dc_cX11_other_dX11_other_28_1.2.2.2.2.2.2.2.2.2.1
def dX11_other_42 := dc_cX11_other_dX11_other_28_1.2.2.2.2.2.2.2.2.2.2.1
def dX11_other_43 := dc_cX11_other_dX11_other_28_1.2.2.2.2.2.2.2.2.2.2.2.1
def dX11_other_44 := dc_cX11_other_dX11_other_28_1.2.2.2.2.2.2.2.2.2.2.2.2.1
def dX11_other_45 := dc_cX11_other_dX11_other_28_1.2.2.2.2.2.2.2.2.2.2.2.2.2.1
def dX11_other_46 := dc_cX11_other_dX11_other_28_1.2.2.2.2.2.2.2.2.2.2.2.2.2.2.1
def dX11_other_47 := dc_cX11_other_dX11_other_28_1.2.2.2.2.2.2.2.2.2.2.2.2.2.2.2
set_option maxRecDepth 100000 in
theorem db_cX11_other_dX11_other_48_2 : zw [(48, .getfield 16, 3), (51, .iload_n 1, 1), (52, .iaload, 1), (53, .invokestatic 40, 3), (56, .invokevirtual 108, 3), (59, .ireturn, 1)] (cX11_other.data.toList.drop 48) 48 = true := by decide +kernel
def dc_cX11_other_dX11_other_48_2 := zw_6 db_cX11_other_dX11_other_48_2
def dX11_other_48 := dc_cX11_other_dX11_other_48_2.1
def dX11_other_51 := dc_cX11_other_dX11_other_48_2.2.1
def dX11_other_52 := dc_cX11_other_dX11_other_48_2.2.2.1
def dX11_other_53 := dc_cX11_other_dX11_other_48_2.2.2.2.1
def dX11_other_56 := dc_cX11_other_dX11_other_48_2.2.2.2.2.1
def dX11_other_59 := dc_cX11_other_dX11_other_48_2.2.2.2.2.2
set_option maxRecDepth 100000 in
theorem db_cX11_grow_dX11_grow_0_0 : zw [(0, .aload_n 0, 1), (1, .iload_n 1, 1), (2, .invokestatic 93, 3), (5, .iconst 1, 1), (6, .invokevirtual 97, 3), (9, .ifCond .eq 5, 3), (12, .iconst 0, 1), (13, .ireturn, 1), (14, .aload_n 0, 1), (15, .getfield 7, 3), (18, .iload_n 1, 1), (19, .iaload, 1), (20, .bipush 7, 2), (22, .if_icmp .ne 8, 3), (25, .aload_n 0, 1), (26, .invokevirtual 131, 3)] (cX11_grow.data.toList.drop 0) 0 = true := by decide +kernel
def dc_cX11_grow_dX11_grow_0_0 := zw_16 db_cX11_grow_dX11_grow_0_0
def dX11_grow_0 := dc_cX11_grow_dX11_grow_0_0.1
def dX11_grow_1 := dc_cX11_grow_dX11_grow_0_0.2.1
def dX11_grow_2 := dc_cX11_grow_dX11_grow_0_0.2.2.1
def dX11_grow_5 := dc_cX11_grow_dX11_grow_0_0.2.2.2.1
def dX11_grow_6 := dc_cX11_grow_dX11_grow_0_0.2.2.2.2.1
def dX11_grow_9 := dc_cX11_grow_dX11_grow_0_0.2.2.2.2.2.1
def dX11_grow_12 := dc_cX11_grow_dX11_grow_0_0.2.2.2.2.2.2.1
def dX11_grow_13 := dc_cX11_grow_dX11_grow_0_0.2.2.2.2.2.2.2.1
def dX11_grow_14 := dc_cX11_grow_dX11_grow_0_0.2.2.2.2.2.2.2.2.1
def dX11_grow_15 := dc_cX11_grow_dX11_grow_0_0.2.2.2.2.2.2.2.2.2.1
def dX11_grow_18 := dc_cX11_grow_dX11_grow_0_0.2.2.2.2.2.2.2.2.2.2.1
def dX11_grow_19 := dc_cX11_grow_dX11_grow_0_0.2.2.2.2.2.2.2.2.2.2.2.1
def dX11_grow_20 := dc_cX11_grow_dX11_grow_0_0.2.2.2.2.2.2.2.2.2.2.2.2.1
def dX11_grow_22 := dc_cX11_grow_dX11_grow_0_0.2.2.2.2.2.2.2.2.2.2.2.2.2.1
def dX11_grow_25 := dc_cX11_grow_dX11_grow_0_0.2.2.2.2.2.2.2.2.2.2.2.2.2.2.1
def dX11_grow_26 := dc_cX11_grow_dX11_grow_0_0.2.2.2.2.2.2.2.2.2.2.2.2.2.2.2
set_option maxRecDepth 100000 in
theorem db_cX11_grow_dX11_grow_29_1 : zw [(29, .ireturn, 1), (30, .aload_n 0, 1), (31, .getfield 7, 3), (34, .iload_n 1, 1), (35, .dup2, 1), (36, .iaload, 1), (37, .iconst 1, 1), (38, .iadd, 1), (39, .iastore, 1), (40, .aload_n 0, 1), (41, .aload_n 0, 1), (42, .getfield 7, 3), (45, .iload_n 1, 1), (46, .iaload, 1), (47, .iconst 1, 1), (48, .isub, 1)] (cX11_grow.data.toList.drop 29) 29 = true := by decide +kernel
def dc_cX11_grow_dX11_grow_29_1 := zw_16 db_cX11_grow_dX11_grow_29_1
def dX11_grow_29 := dc_cX11_grow_dX11_grow_29_1.1
def dX11_grow_30 := dc_cX11_grow_dX11_grow_29_1.2.1
def dX11_grow_31 := dc_cX11_grow_dX11_grow_29_1.2.2.1
def dX11_grow_34 := dc_cX11_grow_dX11_grow_29_1.2.2.2.1
def dX11_grow_35 := dc_cX11_grow_dX11_grow_29_1.2.2.2.2.1
def dX11_grow_36 := dc_cX11_grow_dX11_grow_29_1.2.2.2.2.2.1
def dX11_grow_37 := dc_cX11_grow_dX11_grow_29_1.2.2.2.2.2.2.1
def dX11_grow_38 := dc_cX11_grow_dX11_grow_29_1.2.2.2.2.2.2.2.1
def dX11_grow_39 := dc_cX11_grow_dX11_grow_29_1.2.2.2.2.2.2.2.2.1
def dX11_grow_40 := dc_cX11_grow_dX11_grow_29_1.2.2.2.2.2.2.2.2.2.1
def dX11_grow_41 := dc_cX11_grow_dX11_grow_29_1.2.2.2.2.2.2.2.2.2.2.1
def dX11_grow_42 := dc_cX11_grow_dX11_grow_29_1.2.2.2.2.2.2.2.2.2.2.2.1
def dX11_grow_45 := dc_cX11_grow_dX11_grow_29_1.2.2.2.2.2.2.2.2.2.2.2.2.1
def dX11_grow_46 := dc_cX11_grow_dX11_grow_29_1.2.2.2.2.2.2.2.2.2.2.2.2.2.1
def dX11_grow_47 := dc_cX11_grow_dX11_grow_29_1.2.2.2.2.2.2.2.2.2.2.2.2.2.2.1
def dX11_grow_48 := dc_cX11_grow_dX11_grow_29_1.2.2.2.2.2.2.2.2.2.2.2.2.2.2.2
set_option maxRecDepth 100000 in
theorem db_cX11_grow_dX11_grow_49_2 : zw [(49, .invokevirtual 108, 3), (52, .ireturn, 1)] (cX11_grow.data.toList.drop 49) 49 = true := by decide +kernel
def dc_cX11_grow_dX11_grow_49_2 := zw_2 db_cX11_grow_dX11_grow_49_2
def dX11_grow_49 := dc_cX11_grow_dX11_grow_49_2.1
def dX11_grow_52 := dc_cX11_grow_dX11_grow_49_2.2
set_option maxRecDepth 100000 in
theorem db_cX11_without_dX11_without_0_0 : zw [(0, .iload_n 0, 1), (1, .iconst 1, 1), (2, .iload_n 1, 1), (3, .ishl, 1), (4, .iconst 1, 1), (5, .isub, 1), (6, .iand, 1), (7, .iload_n 0, 1), (8, .iload_n 1, 1), (9, .iconst 1, 1), (10, .iadd, 1), (11, .ishr, 1), (12, .iload_n 1, 1), (13, .ishl, 1), (14, .ior, 1), (15, .ireturn, 1)] (cX11_without.data.toList.drop 0) 0 = true := by decide +kernel
def dc_cX11_without_dX11_without_0_0 := zw_16 db_cX11_without_dX11_without_0_0
def dX11_without_0 := dc_cX11_without_dX11_without_0_0.1
def dX11_without_1 := dc_cX11_without_dX11_without_0_0.2.1
def dX11_without_2 := dc_cX11_without_dX11_without_0_0.2.2.1
def dX11_without_3 := dc_cX11_without_dX11_without_0_0.2.2.2.1
def dX11_without_4 := dc_cX11_without_dX11_without_0_0.2.2.2.2.1
def dX11_without_5 := dc_cX11_without_dX11_without_0_0.2.2.2.2.2.1
def dX11_without_6 := dc_cX11_without_dX11_without_0_0.2.2.2.2.2.2.1
def dX11_without_7 := dc_cX11_without_dX11_without_0_0.2.2.2.2.2.2.2.1
def dX11_without_8 := dc_cX11_without_dX11_without_0_0.2.2.2.2.2.2.2.2.1
def dX11_without_9 := dc_cX11_without_dX11_without_0_0.2.2.2.2.2.2.2.2.2.1
def dX11_without_10 := dc_cX11_without_dX11_without_0_0.2.2.2.2.2.2.2.2.2.2.1
def dX11_without_11 := dc_cX11_without_dX11_without_0_0.2.2.2.2.2.2.2.2.2.2.2.1
def dX11_without_12 := dc_cX11_without_dX11_without_0_0.2.2.2.2.2.2.2.2.2.2.2.2.1
def dX11_without_13 := dc_cX11_without_dX11_without_0_0.2.2.2.2.2.2.2.2.2.2.2.2.2.1
def dX11_without_14 := dc_cX11_without_dX11_without_0_0.2.2.2.2.2.2.2.2.2.2.2.2.2.2.1
def dX11_without_15 := dc_cX11_without_dX11_without_0_0.2.2.2.2.2.2.2.2.2.2.2.2.2.2.2
set_option maxRecDepth 100000 in
theorem db_cX11_drop_dX11_drop_0_0 : zw [(0, .aload_n 0, 1), (1, .iload_n 1, 1), (2, .invokestatic 93, 3), (5, .ifCond .eq 16, 3), (8, .aload_n 0, 1), (9, .iload_n 1, 1), (10, .iload_n 2, 1), (11, .invokevirtual 111, 3), (14, .ifCond .eq 7, 3), (17, .iconst 1, 1), (18, .goto 4, 3), (21, .iconst 0, 1), (22, .iconst 1, 1), (23, .invokevirtual 97, 3), (26, .ifCond .eq 5, 3), (29, .iconst 0, 1)] (cX11_drop.data.toList.drop 0) 0 = true := by decide +kernel
def dc_cX11_drop_dX11_drop_0_0 := zw_16 db_cX11_drop_dX11_drop_0_0
def dX11_drop_0 := dc_cX11_drop_dX11_drop_0_0.1
def dX11_drop_1 := dc_cX11_drop_dX11_drop_0_0.2.1
def dX11_drop_2 := dc_cX11_drop_dX11_drop_0_0.2.2.1
def dX11_drop_5 := dc_cX11_drop_dX11_drop_0_0.2.2.2.1
def dX11_drop_8 := dc_cX11_drop_dX11_drop_0_0.2.2.2.2.1
def dX11_drop_9 := dc_cX11_drop_dX11_drop_0_0.2.2.2.2.2.1
def dX11_drop_10 := dc_cX11_drop_dX11_drop_0_0.2.2.2.2.2.2.1
def dX11_drop_11 := dc_cX11_drop_dX11_drop_0_0.2.2.2.2.2.2.2.1
def dX11_drop_14 := dc_cX11_drop_dX11_drop_0_0.2.2.2.2.2.2.2.2.1
def dX11_drop_17 := dc_cX11_drop_dX11_drop_0_0.2.2.2.2.2.2.2.2.2.1
def dX11_drop_18 := dc_cX11_drop_dX11_drop_0_0.2.2.2.2.2.2.2.2.2.2.1
def dX11_drop_21 := dc_cX11_drop_dX11_drop_0_0.2.2.2.2.2.2.2.2.2.2.2.1
def dX11_drop_22 := dc_cX11_drop_dX11_drop_0_0.2.2.2.2.2.2.2.2.2.2.2.2.1
def dX11_drop_23 := dc_cX11_drop_dX11_drop_0_0.2.2.2.2.2.2.2.2.2.2.2.2.2.1
def dX11_drop_26 := dc_cX11_drop_dX11_drop_0_0.2.2.2.2.2.2.2.2.2.2.2.2.2.2.1
def dX11_drop_29 := dc_cX11_drop_dX11_drop_0_0.2.2.2.2.2.2.2.2.2.2.2.2.2.2.2
set_option maxRecDepth 100000 in
theorem db_cX11_drop_dX11_drop_30_1 : zw [(30, .ireturn, 1), (31, .aload_n 0, 1), (32, .getfield 7, 3), (35, .iload_n 1, 1), (36, .iaload, 1), (37, .iconst 1, 1), (38, .if_icmp .ne 8, 3), (41, .aload_n 0, 1), (42, .invokevirtual 131, 3), (45, .ireturn, 1), (46, .aload_n 0, 1), (47, .iload_n 1, 1), (48, .invokevirtual 101, 3), (51, .istore_n 3, 1), (52, .iload_n 1, 1), (53, .iload_n 2, 1)] (cX11_drop.data.toList.drop 30) 30 = true := by decide +kernel
def dc_cX11_drop_dX11_drop_30_1 := zw_16 db_cX11_drop_dX11_drop_30_1
def dX11_drop_30 := dc_cX11_drop_dX11_drop_30_1.1
def dX11_drop_31 := dc_cX11_drop_dX11_drop_30_1.2.1
def dX11_drop_32 := dc_cX11_drop_dX11_drop_30_1.2.2.1
def dX11_drop_35 := dc_cX11_drop_dX11_drop_30_1.2.2.2.1
def dX11_drop_36 := dc_cX11_drop_dX11_drop_30_1.2.2.2.2.1
def dX11_drop_37 := dc_cX11_drop_dX11_drop_30_1.2.2.2.2.2.1
def dX11_drop_38 := dc_cX11_drop_dX11_drop_30_1.2.2.2.2.2.2.1
def dX11_drop_41 := dc_cX11_drop_dX11_drop_30_1.2.2.2.2.2.2.2.1
def dX11_drop_42 := dc_cX11_drop_dX11_drop_30_1.2.2.2.2.2.2.2.2.1
def dX11_drop_45 := dc_cX11_drop_dX11_drop_30_1.2.2.2.2.2.2.2.2.2.1
def dX11_drop_46 := dc_cX11_drop_dX11_drop_30_1.2.2.2.2.2.2.2.2.2.2.1
def dX11_drop_47 := dc_cX11_drop_dX11_drop_30_1.2.2.2.2.2.2.2.2.2.2.2.1
def dX11_drop_48 := dc_cX11_drop_dX11_drop_30_1.2.2.2.2.2.2.2.2.2.2.2.2.1
def dX11_drop_51 := dc_cX11_drop_dX11_drop_30_1.2.2.2.2.2.2.2.2.2.2.2.2.2.1
def dX11_drop_52 := dc_cX11_drop_dX11_drop_30_1.2.2.2.2.2.2.2.2.2.2.2.2.2.2.1
def dX11_drop_53 := dc_cX11_drop_dX11_drop_30_1.2.2.2.2.2.2.2.2.2.2.2.2.2.2.2
set_option maxRecDepth 100000 in
theorem db_cX11_drop_dX11_drop_54_2 : zw [(54, .iconst 0, 1), (55, .invokestatic 36, 3), (58, .istore 4, 2), (60, .iload 4, 2), (62, .iload_n 1, 1), (63, .iconst 0, 1), (64, .iconst 0, 1), (65, .invokestatic 36, 3), (68, .bipush 21, 2), (70, .iadd, 1), (71, .if_icmp .ge 45, 3), (74, .aload_n 0, 1), (75, .getfield 19, 3), (78, .iload 4, 2), (80, .iload 4, 2), (82, .iconst 3, 1)] (cX11_drop.data.toList.drop 54) 54 = true := by decide +kernel
def dc_cX11_drop_dX11_drop_54_2 := zw_16 db_cX11_drop_dX11_drop_54_2
def dX11_drop_54 := dc_cX11_drop_dX11_drop_54_2.1
def dX11_drop_55 := dc_cX11_drop_dX11_drop_54_2.2.1
def dX11_drop_58 := dc_cX11_drop_dX11_drop_54_2.2.2.1
def dX11_drop_60 := dc_cX11_drop_dX11_drop_54_2.2.2.2.1
def dX11_drop_62 := dc_cX11_drop_dX11_drop_54_2.2.2.2.2.1
def dX11_drop_63 := dc_cX11_drop_dX11_drop_54_2.2.2.2.2.2.1
def dX11_drop_64 := dc_cX11_drop_dX11_drop_54_2.2.2.2.2.2.2.1
def dX11_drop_65 := dc_cX11_drop_dX11_drop_54_2.2.2.2.2.2.2.2.1
def dX11_drop_68 := dc_cX11_drop_dX11_drop_54_2.2.2.2.2.2.2.2.2.1
def dX11_drop_70 := dc_cX11_drop_dX11_drop_54_2.2.2.2.2.2.2.2.2.2.1
def dX11_drop_71 := dc_cX11_drop_dX11_drop_54_2.2.2.2.2.2.2.2.2.2.2.1
def dX11_drop_74 := dc_cX11_drop_dX11_drop_54_2.2.2.2.2.2.2.2.2.2.2.2.1
def dX11_drop_75 := dc_cX11_drop_dX11_drop_54_2.2.2.2.2.2.2.2.2.2.2.2.2.1
def dX11_drop_78 := dc_cX11_drop_dX11_drop_54_2.2.2.2.2.2.2.2.2.2.2.2.2.2.1
def dX11_drop_80 := dc_cX11_drop_dX11_drop_54_2.2.2.2.2.2.2.2.2.2.2.2.2.2.2.1
def dX11_drop_82 := dc_cX11_drop_dX11_drop_54_2.2.2.2.2.2.2.2.2.2.2.2.2.2.2.2
set_option maxRecDepth 100000 in
theorem db_cX11_drop_dX11_drop_83_3 : zw [(83, .iadd, 1), (84, .iload_n 1, 1), (85, .iconst 0, 1), (86, .iconst 0, 1), (87, .invokestatic 36, 3), (90, .bipush 21, 2), (92, .iadd, 1), (93, .if_icmp .ge 15, 3), (96, .aload_n 0, 1), (97, .getfield 19, 3), (100, .iload 4, 2), (102, .iconst 3, 1), (103, .iadd, 1), (104, .iaload, 1), (105, .goto 4, 3), (108, .iconst 0, 1)] (cX11_drop.data.toList.drop 83) 83 = true := by decide +kernel
def dc_cX11_drop_dX11_drop_83_3 := zw_16 db_cX11_drop_dX11_drop_83_3
def dX11_drop_83 := dc_cX11_drop_dX11_drop_83_3.1
def dX11_drop_84 := dc_cX11_drop_dX11_drop_83_3.2.1
def dX11_drop_85 := dc_cX11_drop_dX11_drop_83_3.2.2.1
def dX11_drop_86 := dc_cX11_drop_dX11_drop_83_3.2.2.2.1
def dX11_drop_87 := dc_cX11_drop_dX11_drop_83_3.2.2.2.2.1
def dX11_drop_90 := dc_cX11_drop_dX11_drop_83_3.2.2.2.2.2.1
def dX11_drop_92 := dc_cX11_drop_dX11_drop_83_3.2.2.2.2.2.2.1
def dX11_drop_93 := dc_cX11_drop_dX11_drop_83_3.2.2.2.2.2.2.2.1
def dX11_drop_96 := dc_cX11_drop_dX11_drop_83_3.2.2.2.2.2.2.2.2.1
def dX11_drop_97 := dc_cX11_drop_dX11_drop_83_3.2.2.2.2.2.2.2.2.2.1
def dX11_drop_100 := dc_cX11_drop_dX11_drop_83_3.2.2.2.2.2.2.2.2.2.2.1
def dX11_drop_102 := dc_cX11_drop_dX11_drop_83_3.2.2.2.2.2.2.2.2.2.2.2.1
def dX11_drop_103 := dc_cX11_drop_dX11_drop_83_3.2.2.2.2.2.2.2.2.2.2.2.2.1
def dX11_drop_104 := dc_cX11_drop_dX11_drop_83_3.2.2.2.2.2.2.2.2.2.2.2.2.2.1
def dX11_drop_105 := dc_cX11_drop_dX11_drop_83_3.2.2.2.2.2.2.2.2.2.2.2.2.2.2.1
def dX11_drop_108 := dc_cX11_drop_dX11_drop_83_3.2.2.2.2.2.2.2.2.2.2.2.2.2.2.2
set_option maxRecDepth 100000 in
theorem db_cX11_drop_dX11_drop_109_4 : zw [(109, .iastore, 1), (110, .iinc 4 1, 3), (113, .goto (-53), 3), (116, .iconst 0, 1), (117, .istore 4, 2), (119, .iload 4, 2), (121, .bipush 21, 2), (123, .if_icmp .ge 41, 3), (126, .aload_n 0, 1), (127, .getfield 19, 3), (130, .iload_n 1, 1), (131, .iconst 0, 1), (132, .iconst 0, 1), (133, .invokestatic 36, 3), (136, .iload 4, 2), (138, .iadd, 1)] (cX11_drop.data.toList.drop 109) 109 = true := by decide +kernel
def dc_cX11_drop_dX11_drop_109_4 := zw_16 db_cX11_drop_dX11_drop_109_4
def dX11_drop_109 := dc_cX11_drop_dX11_drop_109_4.1
def dX11_drop_110 := dc_cX11_drop_dX11_drop_109_4.2.1
def dX11_drop_113 := dc_cX11_drop_dX11_drop_109_4.2.2.1
def dX11_drop_116 := dc_cX11_drop_dX11_drop_109_4.2.2.2.1
def dX11_drop_117 := dc_cX11_drop_dX11_drop_109_4.2.2.2.2.1
def dX11_drop_119 := dc_cX11_drop_dX11_drop_109_4.2.2.2.2.2.1
def dX11_drop_121 := dc_cX11_drop_dX11_drop_109_4.2.2.2.2.2.2.1
def dX11_drop_123 := dc_cX11_drop_dX11_drop_109_4.2.2.2.2.2.2.2.1
def dX11_drop_126 := dc_cX11_drop_dX11_drop_109_4.2.2.2.2.2.2.2.2.1
def dX11_drop_127 := dc_cX11_drop_dX11_drop_109_4.2.2.2.2.2.2.2.2.2.1
def dX11_drop_130 := dc_cX11_drop_dX11_drop_109_4.2.2.2.2.2.2.2.2.2.2.1
def dX11_drop_131 := dc_cX11_drop_dX11_drop_109_4.2.2.2.2.2.2.2.2.2.2.2.1
def dX11_drop_132 := dc_cX11_drop_dX11_drop_109_4.2.2.2.2.2.2.2.2.2.2.2.2.1
def dX11_drop_133 := dc_cX11_drop_dX11_drop_109_4.2.2.2.2.2.2.2.2.2.2.2.2.2.1
def dX11_drop_136 := dc_cX11_drop_dX11_drop_109_4.2.2.2.2.2.2.2.2.2.2.2.2.2.2.1
def dX11_drop_138 := dc_cX11_drop_dX11_drop_109_4.2.2.2.2.2.2.2.2.2.2.2.2.2.2.2
set_option maxRecDepth 100000 in
theorem db_cX11_drop_dX11_drop_139_5 : zw [(139, .aload_n 0, 1), (140, .getfield 19, 3), (143, .iload_n 1, 1), (144, .iconst 0, 1), (145, .iconst 0, 1), (146, .invokestatic 36, 3), (149, .iload 4, 2), (151, .iadd, 1), (152, .iaload, 1), (153, .iload_n 2, 1), (154, .invokestatic 135, 3), (157, .iastore, 1), (158, .iinc 4 1, 3), (161, .goto (-42), 3), (164, .aload_n 0, 1), (165, .getfield 13, 3)] (cX11_drop.data.toList.drop 139) 139 = true := by decide +kernel
def dc_cX11_drop_dX11_drop_139_5 := zw_16 db_cX11_drop_dX11_drop_139_5
def dX11_drop_139 := dc_cX11_drop_dX11_drop_139_5.1
def dX11_drop_140 := dc_cX11_drop_dX11_drop_139_5.2.1
def dX11_drop_143 := dc_cX11_drop_dX11_drop_139_5.2.2.1
def dX11_drop_144 := dc_cX11_drop_dX11_drop_139_5.2.2.2.1
def dX11_drop_145 := dc_cX11_drop_dX11_drop_139_5.2.2.2.2.1
def dX11_drop_146 := dc_cX11_drop_dX11_drop_139_5.2.2.2.2.2.1
def dX11_drop_149 := dc_cX11_drop_dX11_drop_139_5.2.2.2.2.2.2.1
def dX11_drop_151 := dc_cX11_drop_dX11_drop_139_5.2.2.2.2.2.2.2.1
def dX11_drop_152 := dc_cX11_drop_dX11_drop_139_5.2.2.2.2.2.2.2.2.1
def dX11_drop_153 := dc_cX11_drop_dX11_drop_139_5.2.2.2.2.2.2.2.2.2.1
def dX11_drop_154 := dc_cX11_drop_dX11_drop_139_5.2.2.2.2.2.2.2.2.2.2.1
def dX11_drop_157 := dc_cX11_drop_dX11_drop_139_5.2.2.2.2.2.2.2.2.2.2.2.1
def dX11_drop_158 := dc_cX11_drop_dX11_drop_139_5.2.2.2.2.2.2.2.2.2.2.2.2.1
def dX11_drop_161 := dc_cX11_drop_dX11_drop_139_5.2.2.2.2.2.2.2.2.2.2.2.2.2.1
def dX11_drop_164 := dc_cX11_drop_dX11_drop_139_5.2.2.2.2.2.2.2.2.2.2.2.2.2.2.1
def dX11_drop_165 := dc_cX11_drop_dX11_drop_139_5.2.2.2.2.2.2.2.2.2.2.2.2.2.2.2
set_option maxRecDepth 100000 in
theorem db_cX11_drop_dX11_drop_168_6 : zw [(168, .iload_n 1, 1), (169, .aload_n 0, 1), (170, .getfield 13, 3), (173, .iload_n 1, 1), (174, .iaload, 1), (175, .iload_n 2, 1), (176, .invokestatic 135, 3), (179, .iastore, 1), (180, .aload_n 0, 1), (181, .getfield 16, 3), (184, .iload_n 1, 1), (185, .aload_n 0, 1), (186, .getfield 16, 3), (189, .iload_n 1, 1), (190, .iaload, 1), (191, .iload_n 2, 1)] (cX11_drop.data.toList.drop 168) 168 = true := by decide +kernel
def dc_cX11_drop_dX11_drop_168_6 := zw_16 db_cX11_drop_dX11_drop_168_6
def dX11_drop_168 := dc_cX11_drop_dX11_drop_168_6.1
def dX11_drop_169 := dc_cX11_drop_dX11_drop_168_6.2.1
def dX11_drop_170 := dc_cX11_drop_dX11_drop_168_6.2.2.1
def dX11_drop_173 := dc_cX11_drop_dX11_drop_168_6.2.2.2.1
def dX11_drop_174 := dc_cX11_drop_dX11_drop_168_6.2.2.2.2.1
def dX11_drop_175 := dc_cX11_drop_dX11_drop_168_6.2.2.2.2.2.1
def dX11_drop_176 := dc_cX11_drop_dX11_drop_168_6.2.2.2.2.2.2.1
def dX11_drop_179 := dc_cX11_drop_dX11_drop_168_6.2.2.2.2.2.2.2.1
def dX11_drop_180 := dc_cX11_drop_dX11_drop_168_6.2.2.2.2.2.2.2.2.1
def dX11_drop_181 := dc_cX11_drop_dX11_drop_168_6.2.2.2.2.2.2.2.2.2.1
def dX11_drop_184 := dc_cX11_drop_dX11_drop_168_6.2.2.2.2.2.2.2.2.2.2.1
def dX11_drop_185 := dc_cX11_drop_dX11_drop_168_6.2.2.2.2.2.2.2.2.2.2.2.1
def dX11_drop_186 := dc_cX11_drop_dX11_drop_168_6.2.2.2.2.2.2.2.2.2.2.2.2.1
def dX11_drop_189 := dc_cX11_drop_dX11_drop_168_6.2.2.2.2.2.2.2.2.2.2.2.2.2.1
def dX11_drop_190 := dc_cX11_drop_dX11_drop_168_6.2.2.2.2.2.2.2.2.2.2.2.2.2.2.1
def dX11_drop_191 := dc_cX11_drop_dX11_drop_168_6.2.2.2.2.2.2.2.2.2.2.2.2.2.2.2
set_option maxRecDepth 100000 in
theorem db_cX11_drop_dX11_drop_192_7 : zw [(192, .invokestatic 135, 3), (195, .iastore, 1), (196, .aload_n 0, 1), (197, .getfield 7, 3), (200, .iload_n 1, 1), (201, .dup2, 1), (202, .iaload, 1), (203, .iconst 1, 1), (204, .isub, 1), (205, .iastore, 1), (206, .aload_n 0, 1), (207, .iload_n 3, 1), (208, .aload_n 0, 1), (209, .iload_n 1, 1), (210, .invokevirtual 101, 3), (213, .isub, 1)] (cX11_drop.data.toList.drop 192) 192 = true := by decide +kernel
def dc_cX11_drop_dX11_drop_192_7 := zw_16 db_cX11_drop_dX11_drop_192_7
def dX11_drop_192 := dc_cX11_drop_dX11_drop_192_7.1
def dX11_drop_195 := dc_cX11_drop_dX11_drop_192_7.2.1
def dX11_drop_196 := dc_cX11_drop_dX11_drop_192_7.2.2.1
def dX11_drop_197 := dc_cX11_drop_dX11_drop_192_7.2.2.2.1
def dX11_drop_200 := dc_cX11_drop_dX11_drop_192_7.2.2.2.2.1
def dX11_drop_201 := dc_cX11_drop_dX11_drop_192_7.2.2.2.2.2.1
def dX11_drop_202 := dc_cX11_drop_dX11_drop_192_7.2.2.2.2.2.2.1
def dX11_drop_203 := dc_cX11_drop_dX11_drop_192_7.2.2.2.2.2.2.2.1
def dX11_drop_204 := dc_cX11_drop_dX11_drop_192_7.2.2.2.2.2.2.2.2.1
def dX11_drop_205 := dc_cX11_drop_dX11_drop_192_7.2.2.2.2.2.2.2.2.2.1
def dX11_drop_206 := dc_cX11_drop_dX11_drop_192_7.2.2.2.2.2.2.2.2.2.2.1
def dX11_drop_207 := dc_cX11_drop_dX11_drop_192_7.2.2.2.2.2.2.2.2.2.2.2.1
def dX11_drop_208 := dc_cX11_drop_dX11_drop_192_7.2.2.2.2.2.2.2.2.2.2.2.2.1
def dX11_drop_209 := dc_cX11_drop_dX11_drop_192_7.2.2.2.2.2.2.2.2.2.2.2.2.2.1
def dX11_drop_210 := dc_cX11_drop_dX11_drop_192_7.2.2.2.2.2.2.2.2.2.2.2.2.2.2.1
def dX11_drop_213 := dc_cX11_drop_dX11_drop_192_7.2.2.2.2.2.2.2.2.2.2.2.2.2.2.2
set_option maxRecDepth 100000 in
theorem db_cX11_drop_dX11_drop_214_8 : zw [(214, .invokevirtual 108, 3), (217, .ireturn, 1)] (cX11_drop.data.toList.drop 214) 214 = true := by decide +kernel
def dc_cX11_drop_dX11_drop_214_8 := zw_2 db_cX11_drop_dX11_drop_214_8
def dX11_drop_214 := dc_cX11_drop_dX11_drop_214_8.1
def dX11_drop_217 := dc_cX11_drop_dX11_drop_214_8.2
set_option maxRecDepth 100000 in
theorem db_cX11_become_dX11_become_0_0 : zw [(0, .aload_n 2, 1), (1, .ifnull 10, 3), (4, .aload_n 2, 1), (5, .arraylength, 1), (6, .bipush 28, 2), (8, .if_icmp .le 8, 3), (11, .aload_n 0, 1), (12, .invokevirtual 131, 3), (15, .ireturn, 1), (16, .aload_n 0, 1), (17, .iload_n 1, 1), (18, .aload_n 2, 1), (19, .arraylength, 1), (20, .iconst 4, 1), (21, .idiv, 1), (22, .invokevirtual 104, 3)] (cX11_become.data.toList.drop 0) 0 = true := by decide +kernel
def dc_cX11_become_dX11_become_0_0 := zw_16 db_cX11_become_dX11_become_0_0
def dX11_become_0 := dc_cX11_become_dX11_become_0_0.1
def dX11_become_1 := dc_cX11_become_dX11_become_0_0.2.1
def dX11_become_4 := dc_cX11_become_dX11_become_0_0.2.2.1
def dX11_become_5 := dc_cX11_become_dX11_become_0_0.2.2.2.1
def dX11_become_6 := dc_cX11_become_dX11_become_0_0.2.2.2.2.1
def dX11_become_8 := dc_cX11_become_dX11_become_0_0.2.2.2.2.2.1
def dX11_become_11 := dc_cX11_become_dX11_become_0_0.2.2.2.2.2.2.1
def dX11_become_12 := dc_cX11_become_dX11_become_0_0.2.2.2.2.2.2.2.1
def dX11_become_15 := dc_cX11_become_dX11_become_0_0.2.2.2.2.2.2.2.2.1
def dX11_become_16 := dc_cX11_become_dX11_become_0_0.2.2.2.2.2.2.2.2.2.1
def dX11_become_17 := dc_cX11_become_dX11_become_0_0.2.2.2.2.2.2.2.2.2.2.1
def dX11_become_18 := dc_cX11_become_dX11_become_0_0.2.2.2.2.2.2.2.2.2.2.2.1
def dX11_become_19 := dc_cX11_become_dX11_become_0_0.2.2.2.2.2.2.2.2.2.2.2.2.1
def dX11_become_20 := dc_cX11_become_dX11_become_0_0.2.2.2.2.2.2.2.2.2.2.2.2.2.1
def dX11_become_21 := dc_cX11_become_dX11_become_0_0.2.2.2.2.2.2.2.2.2.2.2.2.2.2.1
def dX11_become_22 := dc_cX11_become_dX11_become_0_0.2.2.2.2.2.2.2.2.2.2.2.2.2.2.2
set_option maxRecDepth 100000 in
theorem db_cX11_become_dX11_become_25_1 : zw [(25, .iconst 0, 1), (26, .istore_n 3, 1), (27, .iload_n 3, 1), (28, .aload_n 0, 1), (29, .getfield 7, 3), (32, .iload_n 1, 1), (33, .iaload, 1), (34, .if_icmp .ge 64, 3), (37, .aload_n 0, 1), (38, .getfield 16, 3), (41, .iload_n 1, 1), (42, .dup2, 1), (43, .iaload, 1), (44, .aload_n 2, 1), (45, .iconst 4, 1), (46, .iload_n 3, 1)] (cX11_become.data.toList.drop 25) 25 = true := by decide +kernel
def dc_cX11_become_dX11_become_25_1 := zw_16 db_cX11_become_dX11_become_25_1
def dX11_become_25 := dc_cX11_become_dX11_become_25_1.1
def dX11_become_26 := dc_cX11_become_dX11_become_25_1.2.1
def dX11_become_27 := dc_cX11_become_dX11_become_25_1.2.2.1
def dX11_become_28 := dc_cX11_become_dX11_become_25_1.2.2.2.1
def dX11_become_29 := dc_cX11_become_dX11_become_25_1.2.2.2.2.1
def dX11_become_32 := dc_cX11_become_dX11_become_25_1.2.2.2.2.2.1
def dX11_become_33 := dc_cX11_become_dX11_become_25_1.2.2.2.2.2.2.1
def dX11_become_34 := dc_cX11_become_dX11_become_25_1.2.2.2.2.2.2.2.1
def dX11_become_37 := dc_cX11_become_dX11_become_25_1.2.2.2.2.2.2.2.2.1
def dX11_become_38 := dc_cX11_become_dX11_become_25_1.2.2.2.2.2.2.2.2.2.1
def dX11_become_41 := dc_cX11_become_dX11_become_25_1.2.2.2.2.2.2.2.2.2.2.1
def dX11_become_42 := dc_cX11_become_dX11_become_25_1.2.2.2.2.2.2.2.2.2.2.2.1
def dX11_become_43 := dc_cX11_become_dX11_become_25_1.2.2.2.2.2.2.2.2.2.2.2.2.1
def dX11_become_44 := dc_cX11_become_dX11_become_25_1.2.2.2.2.2.2.2.2.2.2.2.2.2.1
def dX11_become_45 := dc_cX11_become_dX11_become_25_1.2.2.2.2.2.2.2.2.2.2.2.2.2.2.1
def dX11_become_46 := dc_cX11_become_dX11_become_25_1.2.2.2.2.2.2.2.2.2.2.2.2.2.2.2
set_option maxRecDepth 100000 in
theorem db_cX11_become_dX11_become_47_2 : zw [(47, .imul, 1), (48, .iconst 3, 1), (49, .iadd, 1), (50, .iaload, 1), (51, .iload_n 3, 1), (52, .ishl, 1), (53, .ior, 1), (54, .iastore, 1), (55, .iconst 0, 1), (56, .istore 4, 2), (58, .iload 4, 2), (60, .iconst 3, 1), (61, .if_icmp .ge 31, 3), (64, .aload_n 0, 1), (65, .getfield 19, 3), (68, .iload_n 1, 1)] (cX11_become.data.toList.drop 47) 47 = true := by decide +kernel
def dc_cX11_become_dX11_become_47_2 := zw_16 db_cX11_become_dX11_become_47_2
def dX11_become_47 := dc_cX11_become_dX11_become_47_2.1
def dX11_become_48 := dc_cX11_become_dX11_become_47_2.2.1
def dX11_become_49 := dc_cX11_become_dX11_become_47_2.2.2.1
def dX11_become_50 := dc_cX11_become_dX11_become_47_2.2.2.2.1
def dX11_become_51 := dc_cX11_become_dX11_become_47_2.2.2.2.2.1
def dX11_become_52 := dc_cX11_become_dX11_become_47_2.2.2.2.2.2.1
def dX11_become_53 := dc_cX11_become_dX11_become_47_2.2.2.2.2.2.2.1
def dX11_become_54 := dc_cX11_become_dX11_become_47_2.2.2.2.2.2.2.2.1
def dX11_become_55 := dc_cX11_become_dX11_become_47_2.2.2.2.2.2.2.2.2.1
def dX11_become_56 := dc_cX11_become_dX11_become_47_2.2.2.2.2.2.2.2.2.2.1
def dX11_become_58 := dc_cX11_become_dX11_become_47_2.2.2.2.2.2.2.2.2.2.2.1
def dX11_become_60 := dc_cX11_become_dX11_become_47_2.2.2.2.2.2.2.2.2.2.2.2.1
def dX11_become_61 := dc_cX11_become_dX11_become_47_2.2.2.2.2.2.2.2.2.2.2.2.2.1
def dX11_become_64 := dc_cX11_become_dX11_become_47_2.2.2.2.2.2.2.2.2.2.2.2.2.2.1
def dX11_become_65 := dc_cX11_become_dX11_become_47_2.2.2.2.2.2.2.2.2.2.2.2.2.2.2.1
def dX11_become_68 := dc_cX11_become_dX11_become_47_2.2.2.2.2.2.2.2.2.2.2.2.2.2.2.2
set_option maxRecDepth 100000 in
theorem db_cX11_become_dX11_become_69_3 : zw [(69, .iload_n 3, 1), (70, .iload 4, 2), (72, .invokestatic 36, 3), (75, .iconst 1, 1), (76, .aload_n 2, 1), (77, .iconst 4, 1), (78, .iload_n 3, 1), (79, .imul, 1), (80, .iload 4, 2), (82, .iadd, 1), (83, .iaload, 1), (84, .ishl, 1), (85, .iastore, 1), (86, .iinc 4 1, 3), (89, .goto (-31), 3), (92, .iinc 3 1, 3)] (cX11_become.data.toList.drop 69) 69 = true := by decide +kernel
def dc_cX11_become_dX11_become_69_3 := zw_16 db_cX11_become_dX11_become_69_3
def dX11_become_69 := dc_cX11_become_dX11_become_69_3.1
def dX11_become_70 := dc_cX11_become_dX11_become_69_3.2.1
def dX11_become_72 := dc_cX11_become_dX11_become_69_3.2.2.1
def dX11_become_75 := dc_cX11_become_dX11_become_69_3.2.2.2.1
def dX11_become_76 := dc_cX11_become_dX11_become_69_3.2.2.2.2.1
def dX11_become_77 := dc_cX11_become_dX11_become_69_3.2.2.2.2.2.1
def dX11_become_78 := dc_cX11_become_dX11_become_69_3.2.2.2.2.2.2.1
def dX11_become_79 := dc_cX11_become_dX11_become_69_3.2.2.2.2.2.2.2.1
def dX11_become_80 := dc_cX11_become_dX11_become_69_3.2.2.2.2.2.2.2.2.1
def dX11_become_82 := dc_cX11_become_dX11_become_69_3.2.2.2.2.2.2.2.2.2.1
def dX11_become_83 := dc_cX11_become_dX11_become_69_3.2.2.2.2.2.2.2.2.2.2.1
def dX11_become_84 := dc_cX11_become_dX11_become_69_3.2.2.2.2.2.2.2.2.2.2.2.1
def dX11_become_85 := dc_cX11_become_dX11_become_69_3.2.2.2.2.2.2.2.2.2.2.2.2.1
def dX11_become_86 := dc_cX11_become_dX11_become_69_3.2.2.2.2.2.2.2.2.2.2.2.2.2.1
def dX11_become_89 := dc_cX11_become_dX11_become_69_3.2.2.2.2.2.2.2.2.2.2.2.2.2.2.1
def dX11_become_92 := dc_cX11_become_dX11_become_69_3.2.2.2.2.2.2.2.2.2.2.2.2.2.2.2
set_option maxRecDepth 100000 in
theorem db_cX11_become_dX11_become_95_4 : zw [(95, .goto (-68), 3), (98, .aload_n 0, 1), (99, .aload_n 0, 1), (100, .getfield 7, 3), (103, .iload_n 1, 1), (104, .iaload, 1), (105, .invokevirtual 108, 3), (108, .ireturn, 1)] (cX11_become.data.toList.drop 95) 95 = true := by decide +kernel
def dc_cX11_become_dX11_become_95_4 := zw_8 db_cX11_become_dX11_become_95_4
def dX11_become_95 := dc_cX11_become_dX11_become_95_4.1
def dX11_become_98 := dc_cX11_become_dX11_become_95_4.2.1
def dX11_become_99 := dc_cX11_become_dX11_become_95_4.2.2.1
def dX11_become_100 := dc_cX11_become_dX11_become_95_4.2.2.2.1
def dX11_become_103 := dc_cX11_become_dX11_become_95_4.2.2.2.2.1
def dX11_become_104 := dc_cX11_become_dX11_become_95_4.2.2.2.2.2.1
def dX11_become_105 := dc_cX11_become_dX11_become_95_4.2.2.2.2.2.2.1
def dX11_become_108 := dc_cX11_become_dX11_become_95_4.2.2.2.2.2.2.2
set_option maxRecDepth 100000 in
theorem db_cX11_make_dX11_make_0_0 : zw [(0, .aload_n 0, 1), (1, .iload_n 1, 1), (2, .invokestatic 93, 3), (5, .ifCond .eq 14, 3), (8, .iload_n 3, 1), (9, .invokestatic 93, 3), (12, .ifCond .eq 7, 3), (15, .iconst 1, 1), (16, .goto 4, 3), (19, .iconst 0, 1), (20, .iconst 1, 1), (21, .invokevirtual 97, 3), (24, .ifCond .eq 7, 3), (27, .iconst 0, 1), (28, .goto 22, 3), (31, .aload_n 0, 1)] (cX11_make.data.toList.drop 0) 0 = true := by decide +kernel
def dc_cX11_make_dX11_make_0_0 := zw_16 db_cX11_make_dX11_make_0_0
def dX11_make_0 := dc_cX11_make_dX11_make_0_0.1
def dX11_make_1 := dc_cX11_make_dX11_make_0_0.2.1
def dX11_make_2 := dc_cX11_make_dX11_make_0_0.2.2.1
def dX11_make_5 := dc_cX11_make_dX11_make_0_0.2.2.2.1
def dX11_make_8 := dc_cX11_make_dX11_make_0_0.2.2.2.2.1
def dX11_make_9 := dc_cX11_make_dX11_make_0_0.2.2.2.2.2.1
def dX11_make_12 := dc_cX11_make_dX11_make_0_0.2.2.2.2.2.2.1
def dX11_make_15 := dc_cX11_make_dX11_make_0_0.2.2.2.2.2.2.2.1
def dX11_make_16 := dc_cX11_make_dX11_make_0_0.2.2.2.2.2.2.2.2.1
def dX11_make_19 := dc_cX11_make_dX11_make_0_0.2.2.2.2.2.2.2.2.2.1
def dX11_make_20 := dc_cX11_make_dX11_make_0_0.2.2.2.2.2.2.2.2.2.2.1
def dX11_make_21 := dc_cX11_make_dX11_make_0_0.2.2.2.2.2.2.2.2.2.2.2.1
def dX11_make_24 := dc_cX11_make_dX11_make_0_0.2.2.2.2.2.2.2.2.2.2.2.2.1
def dX11_make_27 := dc_cX11_make_dX11_make_0_0.2.2.2.2.2.2.2.2.2.2.2.2.2.1
def dX11_make_28 := dc_cX11_make_dX11_make_0_0.2.2.2.2.2.2.2.2.2.2.2.2.2.2.1
def dX11_make_31 := dc_cX11_make_dX11_make_0_0.2.2.2.2.2.2.2.2.2.2.2.2.2.2.2
set_option maxRecDepth 100000 in
theorem db_cX11_make_dX11_make_32_1 : zw [(32, .iload_n 3, 1), (33, .aload_n 0, 1), (34, .iload_n 1, 1), (35, .iload_n 2, 1), (36, .ifCond .eq 7, 3), (39, .iconst 0, 1), (40, .goto 4, 3), (43, .iconst 3, 1), (44, .invokevirtual 138, 3), (47, .invokevirtual 142, 3), (50, .ireturn, 1)] (cX11_make.data.toList.drop 32) 32 = true := by decide +kernel
def dc_cX11_make_dX11_make_32_1 := zw_11 db_cX11_make_dX11_make_32_1
def dX11_make_32 := dc_cX11_make_dX11_make_32_1.1
def dX11_make_33 := dc_cX11_make_dX11_make_32_1.2.1
def dX11_make_34 := dc_cX11_make_dX11_make_32_1.2.2.1
def dX11_make_35 := dc_cX11_make_dX11_make_32_1.2.2.2.1
def dX11_make_36 := dc_cX11_make_dX11_make_32_1.2.2.2.2.1
def dX11_make_39 := dc_cX11_make_dX11_make_32_1.2.2.2.2.2.1
def dX11_make_40 := dc_cX11_make_dX11_make_32_1.2.2.2.2.2.2.1
def dX11_make_43 := dc_cX11_make_dX11_make_32_1.2.2.2.2.2.2.2.1
def dX11_make_44 := dc_cX11_make_dX11_make_32_1.2.2.2.2.2.2.2.2.1
def dX11_make_47 := dc_cX11_make_dX11_make_32_1.2.2.2.2.2.2.2.2.2.1
def dX11_make_50 := dc_cX11_make_dX11_make_32_1.2.2.2.2.2.2.2.2.2.2
set_option maxRecDepth 100000 in
theorem db_cX11_combine_dX11_combine_0_0 : zw [(0, .aload_n 0, 1), (1, .iload_n 1, 1), (2, .invokestatic 93, 3), (5, .ifCond .eq 22, 3), (8, .iload_n 2, 1), (9, .invokestatic 93, 3), (12, .ifCond .eq 15, 3), (15, .iload 4, 2), (17, .invokestatic 93, 3), (20, .ifCond .eq 7, 3), (23, .iconst 1, 1), (24, .goto 4, 3), (27, .iconst 0, 1), (28, .iload_n 3, 1), (29, .iconst 0, 1), (30, .iconst 3, 1)] (cX11_combine.data.toList.drop 0) 0 = true := by decide +kernel
def dc_cX11_combine_dX11_combine_0_0 := zw_16 db_cX11_combine_dX11_combine_0_0
def dX11_combine_0 := dc_cX11_combine_dX11_combine_0_0.1
def dX11_combine_1 := dc_cX11_combine_dX11_combine_0_0.2.1
def dX11_combine_2 := dc_cX11_combine_dX11_combine_0_0.2.2.1
def dX11_combine_5 := dc_cX11_combine_dX11_combine_0_0.2.2.2.1
def dX11_combine_8 := dc_cX11_combine_dX11_combine_0_0.2.2.2.2.1
def dX11_combine_9 := dc_cX11_combine_dX11_combine_0_0.2.2.2.2.2.1
def dX11_combine_12 := dc_cX11_combine_dX11_combine_0_0.2.2.2.2.2.2.1
def dX11_combine_15 := dc_cX11_combine_dX11_combine_0_0.2.2.2.2.2.2.2.1
def dX11_combine_17 := dc_cX11_combine_dX11_combine_0_0.2.2.2.2.2.2.2.2.1
def dX11_combine_20 := dc_cX11_combine_dX11_combine_0_0.2.2.2.2.2.2.2.2.2.1
def dX11_combine_23 := dc_cX11_combine_dX11_combine_0_0.2.2.2.2.2.2.2.2.2.2.1
def dX11_combine_24 := dc_cX11_combine_dX11_combine_0_0.2.2.2.2.2.2.2.2.2.2.2.1
def dX11_combine_27 := dc_cX11_combine_dX11_combine_0_0.2.2.2.2.2.2.2.2.2.2.2.2.1
def dX11_combine_28 := dc_cX11_combine_dX11_combine_0_0.2.2.2.2.2.2.2.2.2.2.2.2.2.1
def dX11_combine_29 := dc_cX11_combine_dX11_combine_0_0.2.2.2.2.2.2.2.2.2.2.2.2.2.2.1
def dX11_combine_30 := dc_cX11_combine_dX11_combine_0_0.2.2.2.2.2.2.2.2.2.2.2.2.2.2.2
set_option maxRecDepth 100000 in
theorem db_cX11_combine_dX11_combine_31_1 : zw [(31, .invokestatic 26, 3), (34, .invokevirtual 97, 3), (37, .ifCond .eq 7, 3), (40, .iconst 0, 1), (41, .goto 19, 3), (44, .aload_n 0, 1), (45, .iload 4, 2), (47, .aload_n 0, 1), (48, .iload_n 1, 1), (49, .iload_n 2, 1), (50, .iload_n 3, 1), (51, .invokevirtual 146, 3), (54, .invokestatic 76, 3), (57, .invokevirtual 142, 3), (60, .ireturn, 1)] (cX11_combine.data.toList.drop 31) 31 = true := by decide +kernel
def dc_cX11_combine_dX11_combine_31_1 := zw_15 db_cX11_combine_dX11_combine_31_1
def dX11_combine_31 := dc_cX11_combine_dX11_combine_31_1.1
def dX11_combine_34 := dc_cX11_combine_dX11_combine_31_1.2.1
def dX11_combine_37 := dc_cX11_combine_dX11_combine_31_1.2.2.1
def dX11_combine_40 := dc_cX11_combine_dX11_combine_31_1.2.2.2.1
def dX11_combine_41 := dc_cX11_combine_dX11_combine_31_1.2.2.2.2.1
def dX11_combine_44 := dc_cX11_combine_dX11_combine_31_1.2.2.2.2.2.1
def dX11_combine_45 := dc_cX11_combine_dX11_combine_31_1.2.2.2.2.2.2.1
def dX11_combine_47 := dc_cX11_combine_dX11_combine_31_1.2.2.2.2.2.2.2.1
def dX11_combine_48 := dc_cX11_combine_dX11_combine_31_1.2.2.2.2.2.2.2.2.1
def dX11_combine_49 := dc_cX11_combine_dX11_combine_31_1.2.2.2.2.2.2.2.2.2.1
def dX11_combine_50 := dc_cX11_combine_dX11_combine_31_1.2.2.2.2.2.2.2.2.2.2.1
def dX11_combine_51 := dc_cX11_combine_dX11_combine_31_1.2.2.2.2.2.2.2.2.2.2.2.1
def dX11_combine_54 := dc_cX11_combine_dX11_combine_31_1.2.2.2.2.2.2.2.2.2.2.2.2.1
def dX11_combine_57 := dc_cX11_combine_dX11_combine_31_1.2.2.2.2.2.2.2.2.2.2.2.2.2.1
def dX11_combine_60 := dc_cX11_combine_dX11_combine_31_1.2.2.2.2.2.2.2.2.2.2.2.2.2.2
set_option maxRecDepth 100000 in
theorem db_cX11_tell_dX11_tell_0_0 : zw [(0, .aload_n 0, 1), (1, .iload_n 1, 1), (2, .invokestatic 93, 3), (5, .iload_n 2, 1), (6, .iconst 0, 1), (7, .iconst 4, 1), (8, .invokestatic 26, 3), (11, .invokevirtual 97, 3), (14, .ifCond .eq 5, 3), (17, .iconst 0, 1), (18, .ireturn, 1), (19, .iload_n 2, 1), (20, .ifCond .ne 12, 3), (23, .aload_n 0, 1), (24, .getfield 7, 3), (27, .iload_n 1, 1)] (cX11_tell.data.toList.drop 0) 0 = true := by decide +kernel
def dc_cX11_tell_dX11_tell_0_0 := zw_16 db_cX11_tell_dX11_tell_0_0
def dX11_tell_0 := dc_cX11_tell_dX11_tell_0_0.1
def dX11_tell_1 := dc_cX11_tell_dX11_tell_0_0.2.1
def dX11_tell_2 := dc_cX11_tell_dX11_tell_0_0.2.2.1
def dX11_tell_5 := dc_cX11_tell_dX11_tell_0_0.2.2.2.1
def dX11_tell_6 := dc_cX11_tell_dX11_tell_0_0.2.2.2.2.1
def dX11_tell_7 := dc_cX11_tell_dX11_tell_0_0.2.2.2.2.2.1
def dX11_tell_8 := dc_cX11_tell_dX11_tell_0_0.2.2.2.2.2.2.1
def dX11_tell_11 := dc_cX11_tell_dX11_tell_0_0.2.2.2.2.2.2.2.1
def dX11_tell_14 := dc_cX11_tell_dX11_tell_0_0.2.2.2.2.2.2.2.2.1
def dX11_tell_17 := dc_cX11_tell_dX11_tell_0_0.2.2.2.2.2.2.2.2.2.1
def dX11_tell_18 := dc_cX11_tell_dX11_tell_0_0.2.2.2.2.2.2.2.2.2.2.1
def dX11_tell_19 := dc_cX11_tell_dX11_tell_0_0.2.2.2.2.2.2.2.2.2.2.2.1
def dX11_tell_20 := dc_cX11_tell_dX11_tell_0_0.2.2.2.2.2.2.2.2.2.2.2.2.1
def dX11_tell_23 := dc_cX11_tell_dX11_tell_0_0.2.2.2.2.2.2.2.2.2.2.2.2.2.1
def dX11_tell_24 := dc_cX11_tell_dX11_tell_0_0.2.2.2.2.2.2.2.2.2.2.2.2.2.2.1
def dX11_tell_27 := dc_cX11_tell_dX11_tell_0_0.2.2.2.2.2.2.2.2.2.2.2.2.2.2.2
set_option maxRecDepth 100000 in
theorem db_cX11_tell_dX11_tell_28_1 : zw [(28, .iaload, 1), (29, .goto 57, 3), (32, .iload_n 2, 1), (33, .iconst 1, 1), (34, .if_icmp .ne 11, 3), (37, .aload_n 0, 1), (38, .iload_n 1, 1), (39, .invokevirtual 101, 3), (42, .goto 44, 3), (45, .iload_n 2, 1), (46, .iconst 2, 1), (47, .if_icmp .ne 12, 3), (50, .aload_n 0, 1), (51, .getfield 13, 3), (54, .iload_n 1, 1), (55, .iaload, 1)] (cX11_tell.data.toList.drop 28) 28 = true := by decide +kernel
def dc_cX11_tell_dX11_tell_28_1 := zw_16 db_cX11_tell_dX11_tell_28_1
def dX11_tell_28 := dc_cX11_tell_dX11_tell_28_1.1
def dX11_tell_29 := dc_cX11_tell_dX11_tell_28_1.2.1
def dX11_tell_32 := dc_cX11_tell_dX11_tell_28_1.2.2.1
def dX11_tell_33 := dc_cX11_tell_dX11_tell_28_1.2.2.2.1
def dX11_tell_34 := dc_cX11_tell_dX11_tell_28_1.2.2.2.2.1
def dX11_tell_37 := dc_cX11_tell_dX11_tell_28_1.2.2.2.2.2.1
def dX11_tell_38 := dc_cX11_tell_dX11_tell_28_1.2.2.2.2.2.2.1
def dX11_tell_39 := dc_cX11_tell_dX11_tell_28_1.2.2.2.2.2.2.2.1
def dX11_tell_42 := dc_cX11_tell_dX11_tell_28_1.2.2.2.2.2.2.2.2.1
def dX11_tell_45 := dc_cX11_tell_dX11_tell_28_1.2.2.2.2.2.2.2.2.2.1
def dX11_tell_46 := dc_cX11_tell_dX11_tell_28_1.2.2.2.2.2.2.2.2.2.2.1
def dX11_tell_47 := dc_cX11_tell_dX11_tell_28_1.2.2.2.2.2.2.2.2.2.2.2.1
def dX11_tell_50 := dc_cX11_tell_dX11_tell_28_1.2.2.2.2.2.2.2.2.2.2.2.2.1
def dX11_tell_51 := dc_cX11_tell_dX11_tell_28_1.2.2.2.2.2.2.2.2.2.2.2.2.2.1
def dX11_tell_54 := dc_cX11_tell_dX11_tell_28_1.2.2.2.2.2.2.2.2.2.2.2.2.2.2.1
def dX11_tell_55 := dc_cX11_tell_dX11_tell_28_1.2.2.2.2.2.2.2.2.2.2.2.2.2.2.2
set_option maxRecDepth 100000 in
theorem db_cX11_tell_dX11_tell_56_2 : zw [(56, .goto 30, 3), (59, .iload_n 2, 1), (60, .iconst 3, 1), (61, .if_icmp .ne 12, 3), (64, .aload_n 0, 1), (65, .getfield 16, 3), (68, .iload_n 1, 1), (69, .iaload, 1), (70, .goto 16, 3), (73, .aload_n 0, 1), (74, .iload_n 1, 1), (75, .invokevirtual 128, 3), (78, .ifCond .eq 7, 3), (81, .iconst 1, 1), (82, .goto 4, 3), (85, .iconst 0, 1)] (cX11_tell.data.toList.drop 56) 56 = true := by decide +kernel
def dc_cX11_tell_dX11_tell_56_2 := zw_16 db_cX11_tell_dX11_tell_56_2
def dX11_tell_56 := dc_cX11_tell_dX11_tell_56_2.1
def dX11_tell_59 := dc_cX11_tell_dX11_tell_56_2.2.1
def dX11_tell_60 := dc_cX11_tell_dX11_tell_56_2.2.2.1
def dX11_tell_61 := dc_cX11_tell_dX11_tell_56_2.2.2.2.1
def dX11_tell_64 := dc_cX11_tell_dX11_tell_56_2.2.2.2.2.1
def dX11_tell_65 := dc_cX11_tell_dX11_tell_56_2.2.2.2.2.2.1
def dX11_tell_68 := dc_cX11_tell_dX11_tell_56_2.2.2.2.2.2.2.1
def dX11_tell_69 := dc_cX11_tell_dX11_tell_56_2.2.2.2.2.2.2.2.1
def dX11_tell_70 := dc_cX11_tell_dX11_tell_56_2.2.2.2.2.2.2.2.2.1
def dX11_tell_73 := dc_cX11_tell_dX11_tell_56_2.2.2.2.2.2.2.2.2.2.1
def dX11_tell_74 := dc_cX11_tell_dX11_tell_56_2.2.2.2.2.2.2.2.2.2.2.1
def dX11_tell_75 := dc_cX11_tell_dX11_tell_56_2.2.2.2.2.2.2.2.2.2.2.2.1
def dX11_tell_78 := dc_cX11_tell_dX11_tell_56_2.2.2.2.2.2.2.2.2.2.2.2.2.1
def dX11_tell_81 := dc_cX11_tell_dX11_tell_56_2.2.2.2.2.2.2.2.2.2.2.2.2.2.1
def dX11_tell_82 := dc_cX11_tell_dX11_tell_56_2.2.2.2.2.2.2.2.2.2.2.2.2.2.2.1
def dX11_tell_85 := dc_cX11_tell_dX11_tell_56_2.2.2.2.2.2.2.2.2.2.2.2.2.2.2.2
set_option maxRecDepth 100000 in
theorem db_cX11_tell_dX11_tell_86_3 : zw [(86, .ireturn, 1)] (cX11_tell.data.toList.drop 86) 86 = true := by decide +kernel
def dX11_tell_86 := zw_1 db_cX11_tell_dX11_tell_86_3
set_option maxRecDepth 100000 in
theorem db_cX11_arrows_dX11_arrows_0_0 : zw [(0, .aload_n 0, 1), (1, .iload_n 1, 1), (2, .invokestatic 93, 3), (5, .ifCond .eq 16, 3), (8, .aload_n 0, 1), (9, .iload_n 1, 1), (10, .iload_n 2, 1), (11, .invokevirtual 111, 3), (14, .ifCond .eq 7, 3), (17, .iconst 1, 1), (18, .goto 4, 3), (21, .iconst 0, 1), (22, .iload_n 3, 1), (23, .iconst 0, 1), (24, .iconst 2, 1), (25, .invokestatic 26, 3)] (cX11_arrows.data.toList.drop 0) 0 = true := by decide +kernel
def dc_cX11_arrows_dX11_arrows_0_0 := zw_16 db_cX11_arrows_dX11_arrows_0_0
def dX11_arrows_0 := dc_cX11_arrows_dX11_arrows_0_0.1
def dX11_arrows_1 := dc_cX11_arrows_dX11_arrows_0_0.2.1
def dX11_arrows_2 := dc_cX11_arrows_dX11_arrows_0_0.2.2.1
def dX11_arrows_5 := dc_cX11_arrows_dX11_arrows_0_0.2.2.2.1
def dX11_arrows_8 := dc_cX11_arrows_dX11_arrows_0_0.2.2.2.2.1
def dX11_arrows_9 := dc_cX11_arrows_dX11_arrows_0_0.2.2.2.2.2.1
def dX11_arrows_10 := dc_cX11_arrows_dX11_arrows_0_0.2.2.2.2.2.2.1
def dX11_arrows_11 := dc_cX11_arrows_dX11_arrows_0_0.2.2.2.2.2.2.2.1
def dX11_arrows_14 := dc_cX11_arrows_dX11_arrows_0_0.2.2.2.2.2.2.2.2.1
def dX11_arrows_17 := dc_cX11_arrows_dX11_arrows_0_0.2.2.2.2.2.2.2.2.2.1
def dX11_arrows_18 := dc_cX11_arrows_dX11_arrows_0_0.2.2.2.2.2.2.2.2.2.2.1
def dX11_arrows_21 := dc_cX11_arrows_dX11_arrows_0_0.2.2.2.2.2.2.2.2.2.2.2.1
def dX11_arrows_22 := dc_cX11_arrows_dX11_arrows_0_0.2.2.2.2.2.2.2.2.2.2.2.2.1
def dX11_arrows_23 := dc_cX11_arrows_dX11_arrows_0_0.2.2.2.2.2.2.2.2.2.2.2.2.2.1
def dX11_arrows_24 := dc_cX11_arrows_dX11_arrows_0_0.2.2.2.2.2.2.2.2.2.2.2.2.2.2.1
def dX11_arrows_25 := dc_cX11_arrows_dX11_arrows_0_0.2.2.2.2.2.2.2.2.2.2.2.2.2.2.2
set_option maxRecDepth 100000 in
theorem db_cX11_arrows_dX11_arrows_28_1 : zw [(28, .invokevirtual 97, 3), (31, .ifCond .eq 7, 3), (34, .iconst 0, 1), (35, .goto 14, 3), (38, .aload_n 0, 1), (39, .getfield 19, 3), (42, .iload_n 1, 1), (43, .iload_n 2, 1), (44, .iload_n 3, 1), (45, .invokestatic 36, 3), (48, .iaload, 1), (49, .ireturn, 1)] (cX11_arrows.data.toList.drop 28) 28 = true := by decide +kernel
def dc_cX11_arrows_dX11_arrows_28_1 := zw_12 db_cX11_arrows_dX11_arrows_28_1
def dX11_arrows_28 := dc_cX11_arrows_dX11_arrows_28_1.1
def dX11_arrows_31 := dc_cX11_arrows_dX11_arrows_28_1.2.1
def dX11_arrows_34 := dc_cX11_arrows_dX11_arrows_28_1.2.2.1
def dX11_arrows_35 := dc_cX11_arrows_dX11_arrows_28_1.2.2.2.1
def dX11_arrows_38 := dc_cX11_arrows_dX11_arrows_28_1.2.2.2.2.1
def dX11_arrows_39 := dc_cX11_arrows_dX11_arrows_28_1.2.2.2.2.2.1
def dX11_arrows_42 := dc_cX11_arrows_dX11_arrows_28_1.2.2.2.2.2.2.1
def dX11_arrows_43 := dc_cX11_arrows_dX11_arrows_28_1.2.2.2.2.2.2.2.1
def dX11_arrows_44 := dc_cX11_arrows_dX11_arrows_28_1.2.2.2.2.2.2.2.2.1
def dX11_arrows_45 := dc_cX11_arrows_dX11_arrows_28_1.2.2.2.2.2.2.2.2.2.1
def dX11_arrows_48 := dc_cX11_arrows_dX11_arrows_28_1.2.2.2.2.2.2.2.2.2.2.1
def dX11_arrows_49 := dc_cX11_arrows_dX11_arrows_28_1.2.2.2.2.2.2.2.2.2.2.2
set_option maxRecDepth 100000 in
theorem db_cX11_power_dX11_power_0_0 : zw [(0, .iconst 1, 1), (1, .istore_n 1, 1), (2, .iconst 0, 1), (3, .istore_n 2, 1), (4, .iload_n 2, 1), (5, .iload_n 0, 1), (6, .if_icmp .ge 13, 3), (9, .iload_n 1, 1), (10, .iconst 3, 1), (11, .imul, 1), (12, .istore_n 1, 1), (13, .iinc 2 1, 3), (16, .goto (-12), 3), (19, .iload_n 1, 1), (20, .ireturn, 1)] (cX11_power.data.toList.drop 0) 0 = true := by decide +kernel
def dc_cX11_power_dX11_power_0_0 := zw_15 db_cX11_power_dX11_power_0_0
def dX11_power_0 := dc_cX11_power_dX11_power_0_0.1
def dX11_power_1 := dc_cX11_power_dX11_power_0_0.2.1
def dX11_power_2 := dc_cX11_power_dX11_power_0_0.2.2.1
def dX11_power_3 := dc_cX11_power_dX11_power_0_0.2.2.2.1
def dX11_power_4 := dc_cX11_power_dX11_power_0_0.2.2.2.2.1
def dX11_power_5 := dc_cX11_power_dX11_power_0_0.2.2.2.2.2.1
def dX11_power_6 := dc_cX11_power_dX11_power_0_0.2.2.2.2.2.2.1
def dX11_power_9 := dc_cX11_power_dX11_power_0_0.2.2.2.2.2.2.2.1
def dX11_power_10 := dc_cX11_power_dX11_power_0_0.2.2.2.2.2.2.2.2.1
def dX11_power_11 := dc_cX11_power_dX11_power_0_0.2.2.2.2.2.2.2.2.2.1
def dX11_power_12 := dc_cX11_power_dX11_power_0_0.2.2.2.2.2.2.2.2.2.2.1
def dX11_power_13 := dc_cX11_power_dX11_power_0_0.2.2.2.2.2.2.2.2.2.2.2.1
def dX11_power_16 := dc_cX11_power_dX11_power_0_0.2.2.2.2.2.2.2.2.2.2.2.2.1
def dX11_power_19 := dc_cX11_power_dX11_power_0_0.2.2.2.2.2.2.2.2.2.2.2.2.2.1
def dX11_power_20 := dc_cX11_power_dX11_power_0_0.2.2.2.2.2.2.2.2.2.2.2.2.2.2
set_option maxRecDepth 100000 in
theorem db_cX11_isWord_dX11_isWord_0_0 : zw [(0, .iload_n 0, 1), (1, .iconst 0, 1), (2, .bipush 12, 2), (4, .invokestatic 26, 3), (7, .ifCond .eq 21, 3), (10, .iload_n 1, 1), (11, .iconst 0, 1), (12, .iload_n 0, 1), (13, .invokestatic 150, 3), (16, .iconst 1, 1), (17, .isub, 1), (18, .invokestatic 26, 3), (21, .ifCond .eq 7, 3), (24, .iconst 1, 1), (25, .goto 4, 3), (28, .iconst 0, 1)] (cX11_isWord.data.toList.drop 0) 0 = true := by decide +kernel
def dc_cX11_isWord_dX11_isWord_0_0 := zw_16 db_cX11_isWord_dX11_isWord_0_0
def dX11_isWord_0 := dc_cX11_isWord_dX11_isWord_0_0.1
def dX11_isWord_1 := dc_cX11_isWord_dX11_isWord_0_0.2.1
def dX11_isWord_2 := dc_cX11_isWord_dX11_isWord_0_0.2.2.1
def dX11_isWord_4 := dc_cX11_isWord_dX11_isWord_0_0.2.2.2.1
def dX11_isWord_7 := dc_cX11_isWord_dX11_isWord_0_0.2.2.2.2.1
def dX11_isWord_10 := dc_cX11_isWord_dX11_isWord_0_0.2.2.2.2.2.1
def dX11_isWord_11 := dc_cX11_isWord_dX11_isWord_0_0.2.2.2.2.2.2.1
def dX11_isWord_12 := dc_cX11_isWord_dX11_isWord_0_0.2.2.2.2.2.2.2.1
def dX11_isWord_13 := dc_cX11_isWord_dX11_isWord_0_0.2.2.2.2.2.2.2.2.1
def dX11_isWord_16 := dc_cX11_isWord_dX11_isWord_0_0.2.2.2.2.2.2.2.2.2.1
def dX11_isWord_17 := dc_cX11_isWord_dX11_isWord_0_0.2.2.2.2.2.2.2.2.2.2.1
def dX11_isWord_18 := dc_cX11_isWord_dX11_isWord_0_0.2.2.2.2.2.2.2.2.2.2.2.1
def dX11_isWord_21 := dc_cX11_isWord_dX11_isWord_0_0.2.2.2.2.2.2.2.2.2.2.2.2.1
def dX11_isWord_24 := dc_cX11_isWord_dX11_isWord_0_0.2.2.2.2.2.2.2.2.2.2.2.2.2.1
def dX11_isWord_25 := dc_cX11_isWord_dX11_isWord_0_0.2.2.2.2.2.2.2.2.2.2.2.2.2.2.1
def dX11_isWord_28 := dc_cX11_isWord_dX11_isWord_0_0.2.2.2.2.2.2.2.2.2.2.2.2.2.2.2
set_option maxRecDepth 100000 in
theorem db_cX11_isWord_dX11_isWord_29_1 : zw [(29, .ireturn, 1)] (cX11_isWord.data.toList.drop 29) 29 = true := by decide +kernel
def dX11_isWord_29 := zw_1 db_cX11_isWord_dX11_isWord_29_1
set_option maxRecDepth 100000 in
theorem db_cX11_setAfter_dX11_setAfter_0_0 : zw [(0, .aload_n 0, 1), (1, .getfield 13, 3), (4, .iload_n 1, 1), (5, .iaload, 1), (6, .istore 4, 2), (8, .iload_n 3, 1), (9, .istore 5, 2), (11, .iconst 0, 1), (12, .istore 6, 2), (14, .iload 6, 2), (16, .iload_n 2, 1), (17, .if_icmp .ge 73, 3), (20, .iconst 0, 1), (21, .istore 7, 2), (23, .iconst 0, 1), (24, .istore 8, 2)] (cX11_setAfter.data.toList.drop 0) 0 = true := by decide +kernel
def dc_cX11_setAfter_dX11_setAfter_0_0 := zw_16 db_cX11_setAfter_dX11_setAfter_0_0
def dX11_setAfter_0 := dc_cX11_setAfter_dX11_setAfter_0_0.1
def dX11_setAfter_1 := dc_cX11_setAfter_dX11_setAfter_0_0.2.1
def dX11_setAfter_4 := dc_cX11_setAfter_dX11_setAfter_0_0.2.2.1
def dX11_setAfter_5 := dc_cX11_setAfter_dX11_setAfter_0_0.2.2.2.1
def dX11_setAfter_6 := dc_cX11_setAfter_dX11_setAfter_0_0.2.2.2.2.1
def dX11_setAfter_8 := dc_cX11_setAfter_dX11_setAfter_0_0.2.2.2.2.2.1
def dX11_setAfter_9 := dc_cX11_setAfter_dX11_setAfter_0_0.2.2.2.2.2.2.1
def dX11_setAfter_11 := dc_cX11_setAfter_dX11_setAfter_0_0.2.2.2.2.2.2.2.1
def dX11_setAfter_12 := dc_cX11_setAfter_dX11_setAfter_0_0.2.2.2.2.2.2.2.2.1
def dX11_setAfter_14 := dc_cX11_setAfter_dX11_setAfter_0_0.2.2.2.2.2.2.2.2.2.1
def dX11_setAfter_16 := dc_cX11_setAfter_dX11_setAfter_0_0.2.2.2.2.2.2.2.2.2.2.1
def dX11_setAfter_17 := dc_cX11_setAfter_dX11_setAfter_0_0.2.2.2.2.2.2.2.2.2.2.2.1
def dX11_setAfter_20 := dc_cX11_setAfter_dX11_setAfter_0_0.2.2.2.2.2.2.2.2.2.2.2.2.1
def dX11_setAfter_21 := dc_cX11_setAfter_dX11_setAfter_0_0.2.2.2.2.2.2.2.2.2.2.2.2.2.1
def dX11_setAfter_23 := dc_cX11_setAfter_dX11_setAfter_0_0.2.2.2.2.2.2.2.2.2.2.2.2.2.2.1
def dX11_setAfter_24 := dc_cX11_setAfter_dX11_setAfter_0_0.2.2.2.2.2.2.2.2.2.2.2.2.2.2.2
set_option maxRecDepth 100000 in
theorem db_cX11_setAfter_dX11_setAfter_26_1 : zw [(26, .iload 8, 2), (28, .aload_n 0, 1), (29, .getfield 7, 3), (32, .iload_n 1, 1), (33, .iaload, 1), (34, .if_icmp .ge 40, 3), (37, .iload 4, 2), (39, .iload 8, 2), (41, .ishr, 1), (42, .iconst 1, 1), (43, .iand, 1), (44, .iconst 1, 1), (45, .if_icmp .ne 23, 3), (48, .iload 7, 2), (50, .aload_n 0, 1), (51, .getfield 19, 3)] (cX11_setAfter.data.toList.drop 26) 26 = true := by decide +kernel
def dc_cX11_setAfter_dX11_setAfter_26_1 := zw_16 db_cX11_setAfter_dX11_setAfter_26_1
def dX11_setAfter_26 := dc_cX11_setAfter_dX11_setAfter_26_1.1
def dX11_setAfter_28 := dc_cX11_setAfter_dX11_setAfter_26_1.2.1
def dX11_setAfter_29 := dc_cX11_setAfter_dX11_setAfter_26_1.2.2.1
def dX11_setAfter_32 := dc_cX11_setAfter_dX11_setAfter_26_1.2.2.2.1
def dX11_setAfter_33 := dc_cX11_setAfter_dX11_setAfter_26_1.2.2.2.2.1
def dX11_setAfter_34 := dc_cX11_setAfter_dX11_setAfter_26_1.2.2.2.2.2.1
def dX11_setAfter_37 := dc_cX11_setAfter_dX11_setAfter_26_1.2.2.2.2.2.2.1
def dX11_setAfter_39 := dc_cX11_setAfter_dX11_setAfter_26_1.2.2.2.2.2.2.2.1
def dX11_setAfter_41 := dc_cX11_setAfter_dX11_setAfter_26_1.2.2.2.2.2.2.2.2.1
def dX11_setAfter_42 := dc_cX11_setAfter_dX11_setAfter_26_1.2.2.2.2.2.2.2.2.2.1
def dX11_setAfter_43 := dc_cX11_setAfter_dX11_setAfter_26_1.2.2.2.2.2.2.2.2.2.2.1
def dX11_setAfter_44 := dc_cX11_setAfter_dX11_setAfter_26_1.2.2.2.2.2.2.2.2.2.2.2.1
def dX11_setAfter_45 := dc_cX11_setAfter_dX11_setAfter_26_1.2.2.2.2.2.2.2.2.2.2.2.2.1
def dX11_setAfter_48 := dc_cX11_setAfter_dX11_setAfter_26_1.2.2.2.2.2.2.2.2.2.2.2.2.2.1
def dX11_setAfter_50 := dc_cX11_setAfter_dX11_setAfter_26_1.2.2.2.2.2.2.2.2.2.2.2.2.2.2.1
def dX11_setAfter_51 := dc_cX11_setAfter_dX11_setAfter_26_1.2.2.2.2.2.2.2.2.2.2.2.2.2.2.2
set_option maxRecDepth 100000 in
theorem db_cX11_setAfter_dX11_setAfter_54_2 : zw [(54, .iload_n 1, 1), (55, .iload 8, 2), (57, .iload 5, 2), (59, .iconst 3, 1), (60, .irem, 1), (61, .invokestatic 36, 3), (64, .iaload, 1), (65, .ior, 1), (66, .istore 7, 2), (68, .iinc 8 1, 3), (71, .goto (-45), 3), (74, .iload 7, 2), (76, .istore 4, 2), (78, .iload 5, 2), (80, .iconst 3, 1), (81, .idiv, 1)] (cX11_setAfter.data.toList.drop 54) 54 = true := by decide +kernel
def dc_cX11_setAfter_dX11_setAfter_54_2 := zw_16 db_cX11_setAfter_dX11_setAfter_54_2
def dX11_setAfter_54 := dc_cX11_setAfter_dX11_setAfter_54_2.1
def dX11_setAfter_55 := dc_cX11_setAfter_dX11_setAfter_54_2.2.1
def dX11_setAfter_57 := dc_cX11_setAfter_dX11_setAfter_54_2.2.2.1
def dX11_setAfter_59 := dc_cX11_setAfter_dX11_setAfter_54_2.2.2.2.1
def dX11_setAfter_60 := dc_cX11_setAfter_dX11_setAfter_54_2.2.2.2.2.1
def dX11_setAfter_61 := dc_cX11_setAfter_dX11_setAfter_54_2.2.2.2.2.2.1
def dX11_setAfter_64 := dc_cX11_setAfter_dX11_setAfter_54_2.2.2.2.2.2.2.1
def dX11_setAfter_65 := dc_cX11_setAfter_dX11_setAfter_54_2.2.2.2.2.2.2.2.1
def dX11_setAfter_66 := dc_cX11_setAfter_dX11_setAfter_54_2.2.2.2.2.2.2.2.2.1
def dX11_setAfter_68 := dc_cX11_setAfter_dX11_setAfter_54_2.2.2.2.2.2.2.2.2.2.1
def dX11_setAfter_71 := dc_cX11_setAfter_dX11_setAfter_54_2.2.2.2.2.2.2.2.2.2.2.1
def dX11_setAfter_74 := dc_cX11_setAfter_dX11_setAfter_54_2.2.2.2.2.2.2.2.2.2.2.2.1
def dX11_setAfter_76 := dc_cX11_setAfter_dX11_setAfter_54_2.2.2.2.2.2.2.2.2.2.2.2.2.1
def dX11_setAfter_78 := dc_cX11_setAfter_dX11_setAfter_54_2.2.2.2.2.2.2.2.2.2.2.2.2.2.1
def dX11_setAfter_80 := dc_cX11_setAfter_dX11_setAfter_54_2.2.2.2.2.2.2.2.2.2.2.2.2.2.2.1
def dX11_setAfter_81 := dc_cX11_setAfter_dX11_setAfter_54_2.2.2.2.2.2.2.2.2.2.2.2.2.2.2.2
set_option maxRecDepth 100000 in
theorem db_cX11_setAfter_dX11_setAfter_82_3 : zw [(82, .istore 5, 2), (84, .iinc 6 1, 3), (87, .goto (-73), 3), (90, .iload 4, 2), (92, .ireturn, 1)] (cX11_setAfter.data.toList.drop 82) 82 = true := by decide +kernel
def dc_cX11_setAfter_dX11_setAfter_82_3 := zw_5 db_cX11_setAfter_dX11_setAfter_82_3
def dX11_setAfter_82 := dc_cX11_setAfter_dX11_setAfter_82_3.1
def dX11_setAfter_84 := dc_cX11_setAfter_dX11_setAfter_82_3.2.1
def dX11_setAfter_87 := dc_cX11_setAfter_dX11_setAfter_82_3.2.2.1
def dX11_setAfter_90 := dc_cX11_setAfter_dX11_setAfter_82_3.2.2.2.1
def dX11_setAfter_92 := dc_cX11_setAfter_dX11_setAfter_82_3.2.2.2.2
set_option maxRecDepth 100000 in
theorem db_cX11_takes_dX11_takes_0_0 : zw [(0, .aload_n 0, 1), (1, .iload_n 1, 1), (2, .invokestatic 93, 3), (5, .iload_n 2, 1), (6, .iload_n 3, 1), (7, .invokestatic 153, 3), (10, .invokevirtual 97, 3), (13, .ifCond .ne 24, 3), (16, .aload_n 0, 1), (17, .iload_n 1, 1), (18, .iload_n 2, 1), (19, .iload_n 3, 1), (20, .invokevirtual 156, 3), (23, .aload_n 0, 1), (24, .getfield 16, 3), (27, .iload_n 1, 1)] (cX11_takes.data.toList.drop 0) 0 = true := by decide +kernel
def dc_cX11_takes_dX11_takes_0_0 := zw_16 db_cX11_takes_dX11_takes_0_0
def dX11_takes_0 := dc_cX11_takes_dX11_takes_0_0.1
def dX11_takes_1 := dc_cX11_takes_dX11_takes_0_0.2.1
def dX11_takes_2 := dc_cX11_takes_dX11_takes_0_0.2.2.1
def dX11_takes_5 := dc_cX11_takes_dX11_takes_0_0.2.2.2.1
def dX11_takes_6 := dc_cX11_takes_dX11_takes_0_0.2.2.2.2.1
def dX11_takes_7 := dc_cX11_takes_dX11_takes_0_0.2.2.2.2.2.1
def dX11_takes_10 := dc_cX11_takes_dX11_takes_0_0.2.2.2.2.2.2.1
def dX11_takes_13 := dc_cX11_takes_dX11_takes_0_0.2.2.2.2.2.2.2.1
def dX11_takes_16 := dc_cX11_takes_dX11_takes_0_0.2.2.2.2.2.2.2.2.1
def dX11_takes_17 := dc_cX11_takes_dX11_takes_0_0.2.2.2.2.2.2.2.2.2.1
def dX11_takes_18 := dc_cX11_takes_dX11_takes_0_0.2.2.2.2.2.2.2.2.2.2.1
def dX11_takes_19 := dc_cX11_takes_dX11_takes_0_0.2.2.2.2.2.2.2.2.2.2.2.1
def dX11_takes_20 := dc_cX11_takes_dX11_takes_0_0.2.2.2.2.2.2.2.2.2.2.2.2.1
def dX11_takes_23 := dc_cX11_takes_dX11_takes_0_0.2.2.2.2.2.2.2.2.2.2.2.2.2.1
def dX11_takes_24 := dc_cX11_takes_dX11_takes_0_0.2.2.2.2.2.2.2.2.2.2.2.2.2.2.1
def dX11_takes_27 := dc_cX11_takes_dX11_takes_0_0.2.2.2.2.2.2.2.2.2.2.2.2.2.2.2
set_option maxRecDepth 100000 in
theorem db_cX11_takes_dX11_takes_28_1 : zw [(28, .iaload, 1), (29, .iand, 1), (30, .ifCond .eq 7, 3), (33, .iconst 1, 1), (34, .goto 4, 3), (37, .iconst 0, 1), (38, .ireturn, 1)] (cX11_takes.data.toList.drop 28) 28 = true := by decide +kernel
def dc_cX11_takes_dX11_takes_28_1 := zw_7 db_cX11_takes_dX11_takes_28_1
def dX11_takes_28 := dc_cX11_takes_dX11_takes_28_1.1
def dX11_takes_29 := dc_cX11_takes_dX11_takes_28_1.2.1
def dX11_takes_30 := dc_cX11_takes_dX11_takes_28_1.2.2.1
def dX11_takes_33 := dc_cX11_takes_dX11_takes_28_1.2.2.2.1
def dX11_takes_34 := dc_cX11_takes_dX11_takes_28_1.2.2.2.2.1
def dX11_takes_37 := dc_cX11_takes_dX11_takes_28_1.2.2.2.2.2.1
def dX11_takes_38 := dc_cX11_takes_dX11_takes_28_1.2.2.2.2.2.2
set_option maxRecDepth 100000 in
theorem db_cX11_after_dX11_after_0_0 : zw [(0, .aload_n 0, 1), (1, .iload_n 1, 1), (2, .invokestatic 93, 3), (5, .iload_n 2, 1), (6, .iload_n 3, 1), (7, .invokestatic 153, 3), (10, .ifCond .eq 17, 3), (13, .iload 4, 2), (15, .iconst 0, 1), (16, .iconst 2, 1), (17, .invokestatic 26, 3), (20, .ifCond .eq 7, 3), (23, .iconst 1, 1), (24, .goto 4, 3), (27, .iconst 0, 1), (28, .invokevirtual 97, 3)] (cX11_after.data.toList.drop 0) 0 = true := by decide +kernel
def dc_cX11_after_dX11_after_0_0 := zw_16 db_cX11_after_dX11_after_0_0
def dX11_after_0 := dc_cX11_after_dX11_after_0_0.1
def dX11_after_1 := dc_cX11_after_dX11_after_0_0.2.1
def dX11_after_2 := dc_cX11_after_dX11_after_0_0.2.2.1
def dX11_after_5 := dc_cX11_after_dX11_after_0_0.2.2.2.1
def dX11_after_6 := dc_cX11_after_dX11_after_0_0.2.2.2.2.1
def dX11_after_7 := dc_cX11_after_dX11_after_0_0.2.2.2.2.2.1
def dX11_after_10 := dc_cX11_after_dX11_after_0_0.2.2.2.2.2.2.1
def dX11_after_13 := dc_cX11_after_dX11_after_0_0.2.2.2.2.2.2.2.1
def dX11_after_15 := dc_cX11_after_dX11_after_0_0.2.2.2.2.2.2.2.2.1
def dX11_after_16 := dc_cX11_after_dX11_after_0_0.2.2.2.2.2.2.2.2.2.1
def dX11_after_17 := dc_cX11_after_dX11_after_0_0.2.2.2.2.2.2.2.2.2.2.1
def dX11_after_20 := dc_cX11_after_dX11_after_0_0.2.2.2.2.2.2.2.2.2.2.2.1
def dX11_after_23 := dc_cX11_after_dX11_after_0_0.2.2.2.2.2.2.2.2.2.2.2.2.1
def dX11_after_24 := dc_cX11_after_dX11_after_0_0.2.2.2.2.2.2.2.2.2.2.2.2.2.1
def dX11_after_27 := dc_cX11_after_dX11_after_0_0.2.2.2.2.2.2.2.2.2.2.2.2.2.2.1
def dX11_after_28 := dc_cX11_after_dX11_after_0_0.2.2.2.2.2.2.2.2.2.2.2.2.2.2.2
set_option maxRecDepth 100000 in
theorem db_cX11_after_dX11_after_31_1 : zw [(31, .ifCond .eq 5, 3), (34, .iconst 0, 1), (35, .ireturn, 1), (36, .iload 4, 2), (38, .ifCond .ne 11, 3), (41, .aload_n 0, 1), (42, .iload_n 1, 1), (43, .iload_n 2, 1), (44, .iload_n 3, 1), (45, .invokevirtual 156, 3), (48, .ireturn, 1), (49, .aload_n 0, 1), (50, .iload_n 1, 1), (51, .iload 4, 2), (53, .iconst 1, 1), (54, .if_icmp .ne 7, 3)] (cX11_after.data.toList.drop 31) 31 = true := by decide +kernel
def dc_cX11_after_dX11_after_31_1 := zw_16 db_cX11_after_dX11_after_31_1
def dX11_after_31 := dc_cX11_after_dX11_after_31_1.1
def dX11_after_34 := dc_cX11_after_dX11_after_31_1.2.1
def dX11_after_35 := dc_cX11_after_dX11_after_31_1.2.2.1
def dX11_after_36 := dc_cX11_after_dX11_after_31_1.2.2.2.1
def dX11_after_38 := dc_cX11_after_dX11_after_31_1.2.2.2.2.1
def dX11_after_41 := dc_cX11_after_dX11_after_31_1.2.2.2.2.2.1
def dX11_after_42 := dc_cX11_after_dX11_after_31_1.2.2.2.2.2.2.1
def dX11_after_43 := dc_cX11_after_dX11_after_31_1.2.2.2.2.2.2.2.1
def dX11_after_44 := dc_cX11_after_dX11_after_31_1.2.2.2.2.2.2.2.2.1
def dX11_after_45 := dc_cX11_after_dX11_after_31_1.2.2.2.2.2.2.2.2.2.1
def dX11_after_48 := dc_cX11_after_dX11_after_31_1.2.2.2.2.2.2.2.2.2.2.1
def dX11_after_49 := dc_cX11_after_dX11_after_31_1.2.2.2.2.2.2.2.2.2.2.2.1
def dX11_after_50 := dc_cX11_after_dX11_after_31_1.2.2.2.2.2.2.2.2.2.2.2.2.1
def dX11_after_51 := dc_cX11_after_dX11_after_31_1.2.2.2.2.2.2.2.2.2.2.2.2.2.1
def dX11_after_53 := dc_cX11_after_dX11_after_31_1.2.2.2.2.2.2.2.2.2.2.2.2.2.2.1
def dX11_after_54 := dc_cX11_after_dX11_after_31_1.2.2.2.2.2.2.2.2.2.2.2.2.2.2.2
set_option maxRecDepth 100000 in
theorem db_cX11_after_dX11_after_57_2 : zw [(57, .iconst 3, 1), (58, .goto 4, 3), (61, .iconst 0, 1), (62, .invokevirtual 138, 3), (65, .astore 5, 2), (67, .aload_n 0, 1), (68, .aload 5, 2), (70, .iconst 3, 1), (71, .invokevirtual 159, 3), (74, .ifCond .eq 5, 3), (77, .iconst 0, 1), (78, .ireturn, 1), (79, .iconst 0, 1), (80, .istore 6, 2), (82, .iload_n 3, 1), (83, .istore 7, 2)] (cX11_after.data.toList.drop 57) 57 = true := by decide +kernel
def dc_cX11_after_dX11_after_57_2 := zw_16 db_cX11_after_dX11_after_57_2
def dX11_after_57 := dc_cX11_after_dX11_after_57_2.1
def dX11_after_58 := dc_cX11_after_dX11_after_57_2.2.1
def dX11_after_61 := dc_cX11_after_dX11_after_57_2.2.2.1
def dX11_after_62 := dc_cX11_after_dX11_after_57_2.2.2.2.1
def dX11_after_65 := dc_cX11_after_dX11_after_57_2.2.2.2.2.1
def dX11_after_67 := dc_cX11_after_dX11_after_57_2.2.2.2.2.2.1
def dX11_after_68 := dc_cX11_after_dX11_after_57_2.2.2.2.2.2.2.1
def dX11_after_70 := dc_cX11_after_dX11_after_57_2.2.2.2.2.2.2.2.1
def dX11_after_71 := dc_cX11_after_dX11_after_57_2.2.2.2.2.2.2.2.2.1
def dX11_after_74 := dc_cX11_after_dX11_after_57_2.2.2.2.2.2.2.2.2.2.1
def dX11_after_77 := dc_cX11_after_dX11_after_57_2.2.2.2.2.2.2.2.2.2.2.1
def dX11_after_78 := dc_cX11_after_dX11_after_57_2.2.2.2.2.2.2.2.2.2.2.2.1
def dX11_after_79 := dc_cX11_after_dX11_after_57_2.2.2.2.2.2.2.2.2.2.2.2.2.1
def dX11_after_80 := dc_cX11_after_dX11_after_57_2.2.2.2.2.2.2.2.2.2.2.2.2.2.1
def dX11_after_82 := dc_cX11_after_dX11_after_57_2.2.2.2.2.2.2.2.2.2.2.2.2.2.2.1
def dX11_after_83 := dc_cX11_after_dX11_after_57_2.2.2.2.2.2.2.2.2.2.2.2.2.2.2.2
set_option maxRecDepth 100000 in
theorem db_cX11_after_dX11_after_85_3 : zw [(85, .iconst 0, 1), (86, .istore 8, 2), (88, .iload 8, 2), (90, .iload_n 2, 1), (91, .if_icmp .ge 29, 3), (94, .aload 5, 2), (96, .iconst 4, 1), (97, .iload 6, 2), (99, .imul, 1), (100, .iload 7, 2), (102, .iconst 3, 1), (103, .irem, 1), (104, .iadd, 1), (105, .iaload, 1), (106, .istore 6, 2), (108, .iload 7, 2)] (cX11_after.data.toList.drop 85) 85 = true := by decide +kernel
def dc_cX11_after_dX11_after_85_3 := zw_16 db_cX11_after_dX11_after_85_3
def dX11_after_85 := dc_cX11_after_dX11_after_85_3.1
def dX11_after_86 := dc_cX11_after_dX11_after_85_3.2.1
def dX11_after_88 := dc_cX11_after_dX11_after_85_3.2.2.1
def dX11_after_90 := dc_cX11_after_dX11_after_85_3.2.2.2.1
def dX11_after_91 := dc_cX11_after_dX11_after_85_3.2.2.2.2.1
def dX11_after_94 := dc_cX11_after_dX11_after_85_3.2.2.2.2.2.1
def dX11_after_96 := dc_cX11_after_dX11_after_85_3.2.2.2.2.2.2.1
def dX11_after_97 := dc_cX11_after_dX11_after_85_3.2.2.2.2.2.2.2.1
def dX11_after_99 := dc_cX11_after_dX11_after_85_3.2.2.2.2.2.2.2.2.1
def dX11_after_100 := dc_cX11_after_dX11_after_85_3.2.2.2.2.2.2.2.2.2.1
def dX11_after_102 := dc_cX11_after_dX11_after_85_3.2.2.2.2.2.2.2.2.2.2.1
def dX11_after_103 := dc_cX11_after_dX11_after_85_3.2.2.2.2.2.2.2.2.2.2.2.1
def dX11_after_104 := dc_cX11_after_dX11_after_85_3.2.2.2.2.2.2.2.2.2.2.2.2.1
def dX11_after_105 := dc_cX11_after_dX11_after_85_3.2.2.2.2.2.2.2.2.2.2.2.2.2.1
def dX11_after_106 := dc_cX11_after_dX11_after_85_3.2.2.2.2.2.2.2.2.2.2.2.2.2.2.1
def dX11_after_108 := dc_cX11_after_dX11_after_85_3.2.2.2.2.2.2.2.2.2.2.2.2.2.2.2
set_option maxRecDepth 100000 in
theorem db_cX11_after_dX11_after_110_4 : zw [(110, .iconst 3, 1), (111, .idiv, 1), (112, .istore 7, 2), (114, .iinc 8 1, 3), (117, .goto (-29), 3), (120, .iload 6, 2), (122, .ireturn, 1)] (cX11_after.data.toList.drop 110) 110 = true := by decide +kernel
def dc_cX11_after_dX11_after_110_4 := zw_7 db_cX11_after_dX11_after_110_4
def dX11_after_110 := dc_cX11_after_dX11_after_110_4.1
def dX11_after_111 := dc_cX11_after_dX11_after_110_4.2.1
def dX11_after_112 := dc_cX11_after_dX11_after_110_4.2.2.1
def dX11_after_114 := dc_cX11_after_dX11_after_110_4.2.2.2.1
def dX11_after_117 := dc_cX11_after_dX11_after_110_4.2.2.2.2.1
def dX11_after_120 := dc_cX11_after_dX11_after_110_4.2.2.2.2.2.1
def dX11_after_122 := dc_cX11_after_dX11_after_110_4.2.2.2.2.2.2
set_option maxRecDepth 100000 in
theorem db_cX11_size_dX11_size_0_0 : zw [(0, .aload_n 0, 1), (1, .iload_n 1, 1), (2, .invokestatic 93, 3), (5, .iload_n 2, 1), (6, .iconst 0, 1), (7, .iconst 3, 1), (8, .invokestatic 26, 3), (11, .invokevirtual 97, 3), (14, .ifCond .eq 5, 3), (17, .iconst 0, 1), (18, .ireturn, 1), (19, .aload_n 0, 1), (20, .iload_n 1, 1), (21, .iload_n 2, 1), (22, .invokevirtual 138, 3), (25, .astore_n 3, 1)] (cX11_size.data.toList.drop 0) 0 = true := by decide +kernel
def dc_cX11_size_dX11_size_0_0 := zw_16 db_cX11_size_dX11_size_0_0
def dX11_size_0 := dc_cX11_size_dX11_size_0_0.1
def dX11_size_1 := dc_cX11_size_dX11_size_0_0.2.1
def dX11_size_2 := dc_cX11_size_dX11_size_0_0.2.2.1
def dX11_size_5 := dc_cX11_size_dX11_size_0_0.2.2.2.1
def dX11_size_6 := dc_cX11_size_dX11_size_0_0.2.2.2.2.1
def dX11_size_7 := dc_cX11_size_dX11_size_0_0.2.2.2.2.2.1
def dX11_size_8 := dc_cX11_size_dX11_size_0_0.2.2.2.2.2.2.1
def dX11_size_11 := dc_cX11_size_dX11_size_0_0.2.2.2.2.2.2.2.1
def dX11_size_14 := dc_cX11_size_dX11_size_0_0.2.2.2.2.2.2.2.2.1
def dX11_size_17 := dc_cX11_size_dX11_size_0_0.2.2.2.2.2.2.2.2.2.1
def dX11_size_18 := dc_cX11_size_dX11_size_0_0.2.2.2.2.2.2.2.2.2.2.1
def dX11_size_19 := dc_cX11_size_dX11_size_0_0.2.2.2.2.2.2.2.2.2.2.2.1
def dX11_size_20 := dc_cX11_size_dX11_size_0_0.2.2.2.2.2.2.2.2.2.2.2.2.1
def dX11_size_21 := dc_cX11_size_dX11_size_0_0.2.2.2.2.2.2.2.2.2.2.2.2.2.1
def dX11_size_22 := dc_cX11_size_dX11_size_0_0.2.2.2.2.2.2.2.2.2.2.2.2.2.2.1
def dX11_size_25 := dc_cX11_size_dX11_size_0_0.2.2.2.2.2.2.2.2.2.2.2.2.2.2.2
set_option maxRecDepth 100000 in
theorem db_cX11_size_dX11_size_26_1 : zw [(26, .aload_n 0, 1), (27, .aload_n 3, 1), (28, .iconst 3, 1), (29, .invokevirtual 159, 3), (32, .ifCond .eq 7, 3), (35, .iconst 0, 1), (36, .goto 7, 3), (39, .aload_n 3, 1), (40, .arraylength, 1), (41, .iconst 4, 1), (42, .idiv, 1), (43, .ireturn, 1)] (cX11_size.data.toList.drop 26) 26 = true := by decide +kernel
def dc_cX11_size_dX11_size_26_1 := zw_12 db_cX11_size_dX11_size_26_1
def dX11_size_26 := dc_cX11_size_dX11_size_26_1.1
def dX11_size_27 := dc_cX11_size_dX11_size_26_1.2.1
def dX11_size_28 := dc_cX11_size_dX11_size_26_1.2.2.1
def dX11_size_29 := dc_cX11_size_dX11_size_26_1.2.2.2.1
def dX11_size_32 := dc_cX11_size_dX11_size_26_1.2.2.2.2.1
def dX11_size_35 := dc_cX11_size_dX11_size_26_1.2.2.2.2.2.1
def dX11_size_36 := dc_cX11_size_dX11_size_26_1.2.2.2.2.2.2.1
def dX11_size_39 := dc_cX11_size_dX11_size_26_1.2.2.2.2.2.2.2.1
def dX11_size_40 := dc_cX11_size_dX11_size_26_1.2.2.2.2.2.2.2.2.1
def dX11_size_41 := dc_cX11_size_dX11_size_26_1.2.2.2.2.2.2.2.2.2.1
def dX11_size_42 := dc_cX11_size_dX11_size_26_1.2.2.2.2.2.2.2.2.2.2.1
def dX11_size_43 := dc_cX11_size_dX11_size_26_1.2.2.2.2.2.2.2.2.2.2.2
set_option maxRecDepth 100000 in
theorem db_cX11_isReached_dX11_isReached_0_0 : zw [(0, .lconst 1, 1), (1, .lstore_n 2, 1), (2, .iconst 0, 1), (3, .istore 4, 2), (5, .iload 4, 2), (7, .iload_n 1, 1), (8, .if_icmp .ge 75, 3), (11, .lconst 0, 1), (12, .lstore 5, 2), (14, .iconst 0, 1), (15, .istore 7, 2), (17, .iload 7, 2), (19, .aload_n 0, 1), (20, .arraylength, 1), (21, .iconst 4, 1), (22, .idiv, 1)] (cX11_isReached.data.toList.drop 0) 0 = true := by decide +kernel
def dc_cX11_isReached_dX11_isReached_0_0 := zw_16 db_cX11_isReached_dX11_isReached_0_0
def dX11_isReached_0 := dc_cX11_isReached_dX11_isReached_0_0.1
def dX11_isReached_1 := dc_cX11_isReached_dX11_isReached_0_0.2.1
def dX11_isReached_2 := dc_cX11_isReached_dX11_isReached_0_0.2.2.1
def dX11_isReached_3 := dc_cX11_isReached_dX11_isReached_0_0.2.2.2.1
def dX11_isReached_5 := dc_cX11_isReached_dX11_isReached_0_0.2.2.2.2.1
def dX11_isReached_7 := dc_cX11_isReached_dX11_isReached_0_0.2.2.2.2.2.1
def dX11_isReached_8 := dc_cX11_isReached_dX11_isReached_0_0.2.2.2.2.2.2.1
def dX11_isReached_11 := dc_cX11_isReached_dX11_isReached_0_0.2.2.2.2.2.2.2.1
def dX11_isReached_12 := dc_cX11_isReached_dX11_isReached_0_0.2.2.2.2.2.2.2.2.1
def dX11_isReached_14 := dc_cX11_isReached_dX11_isReached_0_0.2.2.2.2.2.2.2.2.2.1
def dX11_isReached_15 := dc_cX11_isReached_dX11_isReached_0_0.2.2.2.2.2.2.2.2.2.2.1
def dX11_isReached_17 := dc_cX11_isReached_dX11_isReached_0_0.2.2.2.2.2.2.2.2.2.2.2.1
def dX11_isReached_19 := dc_cX11_isReached_dX11_isReached_0_0.2.2.2.2.2.2.2.2.2.2.2.2.1
def dX11_isReached_20 := dc_cX11_isReached_dX11_isReached_0_0.2.2.2.2.2.2.2.2.2.2.2.2.2.1
def dX11_isReached_21 := dc_cX11_isReached_dX11_isReached_0_0.2.2.2.2.2.2.2.2.2.2.2.2.2.2.1
def dX11_isReached_22 := dc_cX11_isReached_dX11_isReached_0_0.2.2.2.2.2.2.2.2.2.2.2.2.2.2.2
set_option maxRecDepth 100000 in
theorem db_cX11_isReached_dX11_isReached_23_1 : zw [(23, .if_icmp .ge 51, 3), (26, .iconst 0, 1), (27, .istore 8, 2), (29, .iload 8, 2), (31, .iconst 3, 1), (32, .if_icmp .ge 36, 3), (35, .lload_n 2, 1), (36, .iload 7, 2), (38, .lshr, 1), (39, .lconst 1, 1), (40, .land, 1), (41, .lconst 1, 1), (42, .lcmp, 1), (43, .ifCond .ne 19, 3), (46, .lload 5, 2), (48, .lconst 1, 1)] (cX11_isReached.data.toList.drop 23) 23 = true := by decide +kernel
def dc_cX11_isReached_dX11_isReached_23_1 := zw_16 db_cX11_isReached_dX11_isReached_23_1
def dX11_isReached_23 := dc_cX11_isReached_dX11_isReached_23_1.1
def dX11_isReached_26 := dc_cX11_isReached_dX11_isReached_23_1.2.1
def dX11_isReached_27 := dc_cX11_isReached_dX11_isReached_23_1.2.2.1
def dX11_isReached_29 := dc_cX11_isReached_dX11_isReached_23_1.2.2.2.1
def dX11_isReached_31 := dc_cX11_isReached_dX11_isReached_23_1.2.2.2.2.1
def dX11_isReached_32 := dc_cX11_isReached_dX11_isReached_23_1.2.2.2.2.2.1
def dX11_isReached_35 := dc_cX11_isReached_dX11_isReached_23_1.2.2.2.2.2.2.1
def dX11_isReached_36 := dc_cX11_isReached_dX11_isReached_23_1.2.2.2.2.2.2.2.1
def dX11_isReached_38 := dc_cX11_isReached_dX11_isReached_23_1.2.2.2.2.2.2.2.2.1
def dX11_isReached_39 := dc_cX11_isReached_dX11_isReached_23_1.2.2.2.2.2.2.2.2.2.1
def dX11_isReached_40 := dc_cX11_isReached_dX11_isReached_23_1.2.2.2.2.2.2.2.2.2.2.1
def dX11_isReached_41 := dc_cX11_isReached_dX11_isReached_23_1.2.2.2.2.2.2.2.2.2.2.2.1
def dX11_isReached_42 := dc_cX11_isReached_dX11_isReached_23_1.2.2.2.2.2.2.2.2.2.2.2.2.1
def dX11_isReached_43 := dc_cX11_isReached_dX11_isReached_23_1.2.2.2.2.2.2.2.2.2.2.2.2.2.1
def dX11_isReached_46 := dc_cX11_isReached_dX11_isReached_23_1.2.2.2.2.2.2.2.2.2.2.2.2.2.2.1
def dX11_isReached_48 := dc_cX11_isReached_dX11_isReached_23_1.2.2.2.2.2.2.2.2.2.2.2.2.2.2.2
set_option maxRecDepth 100000 in
theorem db_cX11_isReached_dX11_isReached_49_2 : zw [(49, .aload_n 0, 1), (50, .iconst 4, 1), (51, .iload 7, 2), (53, .imul, 1), (54, .iload 8, 2), (56, .iadd, 1), (57, .iaload, 1), (58, .lshl, 1), (59, .lor, 1), (60, .lstore 5, 2), (62, .iinc 8 1, 3), (65, .goto (-36), 3), (68, .iinc 7 1, 3), (71, .goto (-54), 3), (74, .lload 5, 2), (76, .lstore_n 2, 1)] (cX11_isReached.data.toList.drop 49) 49 = true := by decide +kernel
def dc_cX11_isReached_dX11_isReached_49_2 := zw_16 db_cX11_isReached_dX11_isReached_49_2
def dX11_isReached_49 := dc_cX11_isReached_dX11_isReached_49_2.1
def dX11_isReached_50 := dc_cX11_isReached_dX11_isReached_49_2.2.1
def dX11_isReached_51 := dc_cX11_isReached_dX11_isReached_49_2.2.2.1
def dX11_isReached_53 := dc_cX11_isReached_dX11_isReached_49_2.2.2.2.1
def dX11_isReached_54 := dc_cX11_isReached_dX11_isReached_49_2.2.2.2.2.1
def dX11_isReached_56 := dc_cX11_isReached_dX11_isReached_49_2.2.2.2.2.2.1
def dX11_isReached_57 := dc_cX11_isReached_dX11_isReached_49_2.2.2.2.2.2.2.1
def dX11_isReached_58 := dc_cX11_isReached_dX11_isReached_49_2.2.2.2.2.2.2.2.1
def dX11_isReached_59 := dc_cX11_isReached_dX11_isReached_49_2.2.2.2.2.2.2.2.2.1
def dX11_isReached_60 := dc_cX11_isReached_dX11_isReached_49_2.2.2.2.2.2.2.2.2.2.1
def dX11_isReached_62 := dc_cX11_isReached_dX11_isReached_49_2.2.2.2.2.2.2.2.2.2.2.1
def dX11_isReached_65 := dc_cX11_isReached_dX11_isReached_49_2.2.2.2.2.2.2.2.2.2.2.2.1
def dX11_isReached_68 := dc_cX11_isReached_dX11_isReached_49_2.2.2.2.2.2.2.2.2.2.2.2.2.1
def dX11_isReached_71 := dc_cX11_isReached_dX11_isReached_49_2.2.2.2.2.2.2.2.2.2.2.2.2.2.1
def dX11_isReached_74 := dc_cX11_isReached_dX11_isReached_49_2.2.2.2.2.2.2.2.2.2.2.2.2.2.2.1
def dX11_isReached_76 := dc_cX11_isReached_dX11_isReached_49_2.2.2.2.2.2.2.2.2.2.2.2.2.2.2.2
set_option maxRecDepth 100000 in
theorem db_cX11_isReached_dX11_isReached_77_3 : zw [(77, .iinc 4 1, 3), (80, .goto (-75), 3), (83, .iconst 0, 1), (84, .istore 4, 2), (86, .iload 4, 2), (88, .aload_n 0, 1), (89, .arraylength, 1), (90, .iconst 4, 1), (91, .idiv, 1), (92, .if_icmp .ge 34, 3), (95, .lload_n 2, 1), (96, .iload 4, 2), (98, .lshr, 1), (99, .lconst 1, 1), (100, .land, 1), (101, .lconst 1, 1)] (cX11_isReached.data.toList.drop 77) 77 = true := by decide +kernel
def dc_cX11_isReached_dX11_isReached_77_3 := zw_16 db_cX11_isReached_dX11_isReached_77_3
def dX11_isReached_77 := dc_cX11_isReached_dX11_isReached_77_3.1
def dX11_isReached_80 := dc_cX11_isReached_dX11_isReached_77_3.2.1
def dX11_isReached_83 := dc_cX11_isReached_dX11_isReached_77_3.2.2.1
def dX11_isReached_84 := dc_cX11_isReached_dX11_isReached_77_3.2.2.2.1
def dX11_isReached_86 := dc_cX11_isReached_dX11_isReached_77_3.2.2.2.2.1
def dX11_isReached_88 := dc_cX11_isReached_dX11_isReached_77_3.2.2.2.2.2.1
def dX11_isReached_89 := dc_cX11_isReached_dX11_isReached_77_3.2.2.2.2.2.2.1
def dX11_isReached_90 := dc_cX11_isReached_dX11_isReached_77_3.2.2.2.2.2.2.2.1
def dX11_isReached_91 := dc_cX11_isReached_dX11_isReached_77_3.2.2.2.2.2.2.2.2.1
def dX11_isReached_92 := dc_cX11_isReached_dX11_isReached_77_3.2.2.2.2.2.2.2.2.2.1
def dX11_isReached_95 := dc_cX11_isReached_dX11_isReached_77_3.2.2.2.2.2.2.2.2.2.2.1
def dX11_isReached_96 := dc_cX11_isReached_dX11_isReached_77_3.2.2.2.2.2.2.2.2.2.2.2.1
def dX11_isReached_98 := dc_cX11_isReached_dX11_isReached_77_3.2.2.2.2.2.2.2.2.2.2.2.2.1
def dX11_isReached_99 := dc_cX11_isReached_dX11_isReached_77_3.2.2.2.2.2.2.2.2.2.2.2.2.2.1
def dX11_isReached_100 := dc_cX11_isReached_dX11_isReached_77_3.2.2.2.2.2.2.2.2.2.2.2.2.2.2.1
def dX11_isReached_101 := dc_cX11_isReached_dX11_isReached_77_3.2.2.2.2.2.2.2.2.2.2.2.2.2.2.2
set_option maxRecDepth 100000 in
theorem db_cX11_isReached_dX11_isReached_102_4 : zw [(102, .lcmp, 1), (103, .ifCond .ne 17, 3), (106, .aload_n 0, 1), (107, .iconst 4, 1), (108, .iload 4, 2), (110, .imul, 1), (111, .iconst 3, 1), (112, .iadd, 1), (113, .iaload, 1), (114, .iconst 1, 1), (115, .if_icmp .ne 5, 3), (118, .iconst 1, 1), (119, .ireturn, 1), (120, .iinc 4 1, 3), (123, .goto (-37), 3), (126, .iconst 0, 1)] (cX11_isReached.data.toList.drop 102) 102 = true := by decide +kernel
def dc_cX11_isReached_dX11_isReached_102_4 := zw_16 db_cX11_isReached_dX11_isReached_102_4
def dX11_isReached_102 := dc_cX11_isReached_dX11_isReached_102_4.1
def dX11_isReached_103 := dc_cX11_isReached_dX11_isReached_102_4.2.1
def dX11_isReached_106 := dc_cX11_isReached_dX11_isReached_102_4.2.2.1
def dX11_isReached_107 := dc_cX11_isReached_dX11_isReached_102_4.2.2.2.1
def dX11_isReached_108 := dc_cX11_isReached_dX11_isReached_102_4.2.2.2.2.1
def dX11_isReached_110 := dc_cX11_isReached_dX11_isReached_102_4.2.2.2.2.2.1
def dX11_isReached_111 := dc_cX11_isReached_dX11_isReached_102_4.2.2.2.2.2.2.1
def dX11_isReached_112 := dc_cX11_isReached_dX11_isReached_102_4.2.2.2.2.2.2.2.1
def dX11_isReached_113 := dc_cX11_isReached_dX11_isReached_102_4.2.2.2.2.2.2.2.2.1
def dX11_isReached_114 := dc_cX11_isReached_dX11_isReached_102_4.2.2.2.2.2.2.2.2.2.1
def dX11_isReached_115 := dc_cX11_isReached_dX11_isReached_102_4.2.2.2.2.2.2.2.2.2.2.1
def dX11_isReached_118 := dc_cX11_isReached_dX11_isReached_102_4.2.2.2.2.2.2.2.2.2.2.2.1
def dX11_isReached_119 := dc_cX11_isReached_dX11_isReached_102_4.2.2.2.2.2.2.2.2.2.2.2.2.1
def dX11_isReached_120 := dc_cX11_isReached_dX11_isReached_102_4.2.2.2.2.2.2.2.2.2.2.2.2.2.1
def dX11_isReached_123 := dc_cX11_isReached_dX11_isReached_102_4.2.2.2.2.2.2.2.2.2.2.2.2.2.2.1
def dX11_isReached_126 := dc_cX11_isReached_dX11_isReached_102_4.2.2.2.2.2.2.2.2.2.2.2.2.2.2.2
set_option maxRecDepth 100000 in
theorem db_cX11_isReached_dX11_isReached_127_5 : zw [(127, .ireturn, 1)] (cX11_isReached.data.toList.drop 127) 127 = true := by decide +kernel
def dX11_isReached_127 := zw_1 db_cX11_isReached_dX11_isReached_127_5
set_option maxRecDepth 100000 in
theorem db_cX11_kind_dX11_kind_0_0 : zw [(0, .aload_n 0, 1), (1, .iload_n 1, 1), (2, .invokestatic 93, 3), (5, .iconst 1, 1), (6, .invokevirtual 97, 3), (9, .ifCond .eq 5, 3), (12, .iconst 0, 1), (13, .ireturn, 1), (14, .aload_n 0, 1), (15, .iload_n 1, 1), (16, .iconst 0, 1), (17, .invokevirtual 138, 3), (20, .astore_n 2, 1), (21, .aload_n 0, 1), (22, .aload_n 2, 1), (23, .iconst 2, 1)] (cX11_kind.data.toList.drop 0) 0 = true := by decide +kernel
def dc_cX11_kind_dX11_kind_0_0 := zw_16 db_cX11_kind_dX11_kind_0_0
def dX11_kind_0 := dc_cX11_kind_dX11_kind_0_0.1
def dX11_kind_1 := dc_cX11_kind_dX11_kind_0_0.2.1
def dX11_kind_2 := dc_cX11_kind_dX11_kind_0_0.2.2.1
def dX11_kind_5 := dc_cX11_kind_dX11_kind_0_0.2.2.2.1
def dX11_kind_6 := dc_cX11_kind_dX11_kind_0_0.2.2.2.2.1
def dX11_kind_9 := dc_cX11_kind_dX11_kind_0_0.2.2.2.2.2.1
def dX11_kind_12 := dc_cX11_kind_dX11_kind_0_0.2.2.2.2.2.2.1
def dX11_kind_13 := dc_cX11_kind_dX11_kind_0_0.2.2.2.2.2.2.2.1
def dX11_kind_14 := dc_cX11_kind_dX11_kind_0_0.2.2.2.2.2.2.2.2.1
def dX11_kind_15 := dc_cX11_kind_dX11_kind_0_0.2.2.2.2.2.2.2.2.2.1
def dX11_kind_16 := dc_cX11_kind_dX11_kind_0_0.2.2.2.2.2.2.2.2.2.2.1
def dX11_kind_17 := dc_cX11_kind_dX11_kind_0_0.2.2.2.2.2.2.2.2.2.2.2.1
def dX11_kind_20 := dc_cX11_kind_dX11_kind_0_0.2.2.2.2.2.2.2.2.2.2.2.2.1
def dX11_kind_21 := dc_cX11_kind_dX11_kind_0_0.2.2.2.2.2.2.2.2.2.2.2.2.2.1
def dX11_kind_22 := dc_cX11_kind_dX11_kind_0_0.2.2.2.2.2.2.2.2.2.2.2.2.2.2.1
def dX11_kind_23 := dc_cX11_kind_dX11_kind_0_0.2.2.2.2.2.2.2.2.2.2.2.2.2.2.2
set_option maxRecDepth 100000 in
theorem db_cX11_kind_dX11_kind_24_1 : zw [(24, .invokevirtual 159, 3), (27, .ifCond .eq 5, 3), (30, .iconst 0, 1), (31, .ireturn, 1), (32, .aload_n 2, 1), (33, .arraylength, 1), (34, .iconst 4, 1), (35, .idiv, 1), (36, .istore_n 3, 1), (37, .iload_n 3, 1), (38, .iconst 1, 1), (39, .if_icmp .ne 7, 3), (42, .aload_n 2, 1), (43, .iconst 3, 1), (44, .iaload, 1), (45, .ireturn, 1)] (cX11_kind.data.toList.drop 24) 24 = true := by decide +kernel
def dc_cX11_kind_dX11_kind_24_1 := zw_16 db_cX11_kind_dX11_kind_24_1
def dX11_kind_24 := dc_cX11_kind_dX11_kind_24_1.1
def dX11_kind_27 := dc_cX11_kind_dX11_kind_24_1.2.1
def dX11_kind_30 := dc_cX11_kind_dX11_kind_24_1.2.2.1
def dX11_kind_31 := dc_cX11_kind_dX11_kind_24_1.2.2.2.1
def dX11_kind_32 := dc_cX11_kind_dX11_kind_24_1.2.2.2.2.1
def dX11_kind_33 := dc_cX11_kind_dX11_kind_24_1.2.2.2.2.2.1
def dX11_kind_34 := dc_cX11_kind_dX11_kind_24_1.2.2.2.2.2.2.1
def dX11_kind_35 := dc_cX11_kind_dX11_kind_24_1.2.2.2.2.2.2.2.1
def dX11_kind_36 := dc_cX11_kind_dX11_kind_24_1.2.2.2.2.2.2.2.2.1
def dX11_kind_37 := dc_cX11_kind_dX11_kind_24_1.2.2.2.2.2.2.2.2.2.1
def dX11_kind_38 := dc_cX11_kind_dX11_kind_24_1.2.2.2.2.2.2.2.2.2.2.1
def dX11_kind_39 := dc_cX11_kind_dX11_kind_24_1.2.2.2.2.2.2.2.2.2.2.2.1
def dX11_kind_42 := dc_cX11_kind_dX11_kind_24_1.2.2.2.2.2.2.2.2.2.2.2.2.1
def dX11_kind_43 := dc_cX11_kind_dX11_kind_24_1.2.2.2.2.2.2.2.2.2.2.2.2.2.1
def dX11_kind_44 := dc_cX11_kind_dX11_kind_24_1.2.2.2.2.2.2.2.2.2.2.2.2.2.2.1
def dX11_kind_45 := dc_cX11_kind_dX11_kind_24_1.2.2.2.2.2.2.2.2.2.2.2.2.2.2.2
set_option maxRecDepth 100000 in
theorem db_cX11_kind_dX11_kind_46_2 : zw [(46, .iload_n 3, 1), (47, .istore 4, 2), (49, .iload 4, 2), (51, .iconst 2, 1), (52, .iload_n 3, 1), (53, .imul, 1), (54, .if_icmp .ge 20, 3), (57, .aload_n 2, 1), (58, .iload 4, 2), (60, .invokestatic 186, 3), (63, .ifCond .eq 5, 3), (66, .iconst 3, 1), (67, .ireturn, 1), (68, .iinc 4 1, 3), (71, .goto (-22), 3), (74, .iconst 2, 1)] (cX11_kind.data.toList.drop 46) 46 = true := by decide +kernel
def dc_cX11_kind_dX11_kind_46_2 := zw_16 db_cX11_kind_dX11_kind_46_2
def dX11_kind_46 := dc_cX11_kind_dX11_kind_46_2.1
def dX11_kind_47 := dc_cX11_kind_dX11_kind_46_2.2.1
def dX11_kind_49 := dc_cX11_kind_dX11_kind_46_2.2.2.1
def dX11_kind_51 := dc_cX11_kind_dX11_kind_46_2.2.2.2.1
def dX11_kind_52 := dc_cX11_kind_dX11_kind_46_2.2.2.2.2.1
def dX11_kind_53 := dc_cX11_kind_dX11_kind_46_2.2.2.2.2.2.1
def dX11_kind_54 := dc_cX11_kind_dX11_kind_46_2.2.2.2.2.2.2.1
def dX11_kind_57 := dc_cX11_kind_dX11_kind_46_2.2.2.2.2.2.2.2.1
def dX11_kind_58 := dc_cX11_kind_dX11_kind_46_2.2.2.2.2.2.2.2.2.1
def dX11_kind_60 := dc_cX11_kind_dX11_kind_46_2.2.2.2.2.2.2.2.2.2.1
def dX11_kind_63 := dc_cX11_kind_dX11_kind_46_2.2.2.2.2.2.2.2.2.2.2.1
def dX11_kind_66 := dc_cX11_kind_dX11_kind_46_2.2.2.2.2.2.2.2.2.2.2.2.1
def dX11_kind_67 := dc_cX11_kind_dX11_kind_46_2.2.2.2.2.2.2.2.2.2.2.2.2.1
def dX11_kind_68 := dc_cX11_kind_dX11_kind_46_2.2.2.2.2.2.2.2.2.2.2.2.2.2.1
def dX11_kind_71 := dc_cX11_kind_dX11_kind_46_2.2.2.2.2.2.2.2.2.2.2.2.2.2.2.1
def dX11_kind_74 := dc_cX11_kind_dX11_kind_46_2.2.2.2.2.2.2.2.2.2.2.2.2.2.2.2
set_option maxRecDepth 100000 in
theorem db_cX11_kind_dX11_kind_75_3 : zw [(75, .ireturn, 1)] (cX11_kind.data.toList.drop 75) 75 = true := by decide +kernel
def dX11_kind_75 := zw_1 db_cX11_kind_dX11_kind_75_3
set_option maxRecDepth 100000 in
theorem db_cX11_many_dX11_many_0_0 : zw [(0, .aload_n 0, 1), (1, .iload_n 1, 1), (2, .invokestatic 93, 3), (5, .iload_n 2, 1), (6, .iconst 0, 1), (7, .bipush 12, 2), (9, .invokestatic 26, 3), (12, .ifCond .eq 26, 3), (15, .iload_n 3, 1), (16, .iconst 0, 1), (17, .iconst 1, 1), (18, .invokestatic 26, 3), (21, .ifCond .eq 17, 3), (24, .iload_n 3, 1), (25, .ifCond .eq 9, 3), (28, .iload_n 2, 1)] (cX11_many.data.toList.drop 0) 0 = true := by decide +kernel
def dc_cX11_many_dX11_many_0_0 := zw_16 db_cX11_many_dX11_many_0_0
def dX11_many_0 := dc_cX11_many_dX11_many_0_0.1
def dX11_many_1 := dc_cX11_many_dX11_many_0_0.2.1
def dX11_many_2 := dc_cX11_many_dX11_many_0_0.2.2.1
def dX11_many_5 := dc_cX11_many_dX11_many_0_0.2.2.2.1
def dX11_many_6 := dc_cX11_many_dX11_many_0_0.2.2.2.2.1
def dX11_many_7 := dc_cX11_many_dX11_many_0_0.2.2.2.2.2.1
def dX11_many_9 := dc_cX11_many_dX11_many_0_0.2.2.2.2.2.2.1
def dX11_many_12 := dc_cX11_many_dX11_many_0_0.2.2.2.2.2.2.2.1
def dX11_many_15 := dc_cX11_many_dX11_many_0_0.2.2.2.2.2.2.2.2.1
def dX11_many_16 := dc_cX11_many_dX11_many_0_0.2.2.2.2.2.2.2.2.2.1
def dX11_many_17 := dc_cX11_many_dX11_many_0_0.2.2.2.2.2.2.2.2.2.2.1
def dX11_many_18 := dc_cX11_many_dX11_many_0_0.2.2.2.2.2.2.2.2.2.2.2.1
def dX11_many_21 := dc_cX11_many_dX11_many_0_0.2.2.2.2.2.2.2.2.2.2.2.2.1
def dX11_many_24 := dc_cX11_many_dX11_many_0_0.2.2.2.2.2.2.2.2.2.2.2.2.2.1
def dX11_many_25 := dc_cX11_many_dX11_many_0_0.2.2.2.2.2.2.2.2.2.2.2.2.2.2.1
def dX11_many_28 := dc_cX11_many_dX11_many_0_0.2.2.2.2.2.2.2.2.2.2.2.2.2.2.2
set_option maxRecDepth 100000 in
theorem db_cX11_many_dX11_many_29_1 : zw [(29, .bipush 6, 2), (31, .if_icmp .ge 7, 3), (34, .iconst 1, 1), (35, .goto 4, 3), (38, .iconst 0, 1), (39, .invokevirtual 97, 3), (42, .ifCond .eq 5, 3), (45, .iconst 0, 1), (46, .ireturn, 1), (47, .iload_n 3, 1), (48, .ifCond .ne 40, 3), (51, .aload_n 0, 1), (52, .iload_n 1, 1), (53, .iconst 0, 1), (54, .invokevirtual 138, 3), (57, .astore 4, 2)] (cX11_many.data.toList.drop 29) 29 = true := by decide +kernel
def dc_cX11_many_dX11_many_29_1 := zw_16 db_cX11_many_dX11_many_29_1
def dX11_many_29 := dc_cX11_many_dX11_many_29_1.1
def dX11_many_31 := dc_cX11_many_dX11_many_29_1.2.1
def dX11_many_34 := dc_cX11_many_dX11_many_29_1.2.2.1
def dX11_many_35 := dc_cX11_many_dX11_many_29_1.2.2.2.1
def dX11_many_38 := dc_cX11_many_dX11_many_29_1.2.2.2.2.1
def dX11_many_39 := dc_cX11_many_dX11_many_29_1.2.2.2.2.2.1
def dX11_many_42 := dc_cX11_many_dX11_many_29_1.2.2.2.2.2.2.1
def dX11_many_45 := dc_cX11_many_dX11_many_29_1.2.2.2.2.2.2.2.1
def dX11_many_46 := dc_cX11_many_dX11_many_29_1.2.2.2.2.2.2.2.2.1
def dX11_many_47 := dc_cX11_many_dX11_many_29_1.2.2.2.2.2.2.2.2.2.1
def dX11_many_48 := dc_cX11_many_dX11_many_29_1.2.2.2.2.2.2.2.2.2.2.1
def dX11_many_51 := dc_cX11_many_dX11_many_29_1.2.2.2.2.2.2.2.2.2.2.2.1
def dX11_many_52 := dc_cX11_many_dX11_many_29_1.2.2.2.2.2.2.2.2.2.2.2.2.1
def dX11_many_53 := dc_cX11_many_dX11_many_29_1.2.2.2.2.2.2.2.2.2.2.2.2.2.1
def dX11_many_54 := dc_cX11_many_dX11_many_29_1.2.2.2.2.2.2.2.2.2.2.2.2.2.2.1
def dX11_many_57 := dc_cX11_many_dX11_many_29_1.2.2.2.2.2.2.2.2.2.2.2.2.2.2.2
set_option maxRecDepth 100000 in
theorem db_cX11_many_dX11_many_59_2 : zw [(59, .aload_n 0, 1), (60, .aload 4, 2), (62, .iconst 3, 1), (63, .invokevirtual 159, 3), (66, .ifCond .eq 7, 3), (69, .iconst 0, 1), (70, .goto 17, 3), (73, .aload 4, 2), (75, .iload_n 2, 1), (76, .invokestatic 189, 3), (79, .iload_n 2, 1), (80, .aload 4, 2), (82, .arraylength, 1), (83, .iconst 4, 1), (84, .idiv, 1), (85, .imul, 1)] (cX11_many.data.toList.drop 59) 59 = true := by decide +kernel
def dc_cX11_many_dX11_many_59_2 := zw_16 db_cX11_many_dX11_many_59_2
def dX11_many_59 := dc_cX11_many_dX11_many_59_2.1
def dX11_many_60 := dc_cX11_many_dX11_many_59_2.2.1
def dX11_many_62 := dc_cX11_many_dX11_many_59_2.2.2.1
def dX11_many_63 := dc_cX11_many_dX11_many_59_2.2.2.2.1
def dX11_many_66 := dc_cX11_many_dX11_many_59_2.2.2.2.2.1
def dX11_many_69 := dc_cX11_many_dX11_many_59_2.2.2.2.2.2.1
def dX11_many_70 := dc_cX11_many_dX11_many_59_2.2.2.2.2.2.2.1
def dX11_many_73 := dc_cX11_many_dX11_many_59_2.2.2.2.2.2.2.2.1
def dX11_many_75 := dc_cX11_many_dX11_many_59_2.2.2.2.2.2.2.2.2.1
def dX11_many_76 := dc_cX11_many_dX11_many_59_2.2.2.2.2.2.2.2.2.2.1
def dX11_many_79 := dc_cX11_many_dX11_many_59_2.2.2.2.2.2.2.2.2.2.2.1
def dX11_many_80 := dc_cX11_many_dX11_many_59_2.2.2.2.2.2.2.2.2.2.2.2.1
def dX11_many_82 := dc_cX11_many_dX11_many_59_2.2.2.2.2.2.2.2.2.2.2.2.2.1
def dX11_many_83 := dc_cX11_many_dX11_many_59_2.2.2.2.2.2.2.2.2.2.2.2.2.2.1
def dX11_many_84 := dc_cX11_many_dX11_many_59_2.2.2.2.2.2.2.2.2.2.2.2.2.2.2.1
def dX11_many_85 := dc_cX11_many_dX11_many_59_2.2.2.2.2.2.2.2.2.2.2.2.2.2.2.2
set_option maxRecDepth 100000 in
theorem db_cX11_many_dX11_many_86_3 : zw [(86, .iaload, 1), (87, .ireturn, 1), (88, .iconst 0, 1), (89, .istore 4, 2), (91, .iconst 0, 1), (92, .istore 5, 2), (94, .iload 5, 2), (96, .iload_n 2, 1), (97, .invokestatic 150, 3), (100, .if_icmp .ge 37, 3), (103, .iload 4, 2), (105, .aload_n 0, 1), (106, .iload_n 1, 1), (107, .iload_n 2, 1), (108, .iload 5, 2), (110, .invokevirtual 156, 3)] (cX11_many.data.toList.drop 86) 86 = true := by decide +kernel
def dc_cX11_many_dX11_many_86_3 := zw_16 db_cX11_many_dX11_many_86_3
def dX11_many_86 := dc_cX11_many_dX11_many_86_3.1
def dX11_many_87 := dc_cX11_many_dX11_many_86_3.2.1
def dX11_many_88 := dc_cX11_many_dX11_many_86_3.2.2.1
def dX11_many_89 := dc_cX11_many_dX11_many_86_3.2.2.2.1
def dX11_many_91 := dc_cX11_many_dX11_many_86_3.2.2.2.2.1
def dX11_many_92 := dc_cX11_many_dX11_many_86_3.2.2.2.2.2.1
def dX11_many_94 := dc_cX11_many_dX11_many_86_3.2.2.2.2.2.2.1
def dX11_many_96 := dc_cX11_many_dX11_many_86_3.2.2.2.2.2.2.2.1
def dX11_many_97 := dc_cX11_many_dX11_many_86_3.2.2.2.2.2.2.2.2.1
def dX11_many_100 := dc_cX11_many_dX11_many_86_3.2.2.2.2.2.2.2.2.2.1
def dX11_many_103 := dc_cX11_many_dX11_many_86_3.2.2.2.2.2.2.2.2.2.2.1
def dX11_many_105 := dc_cX11_many_dX11_many_86_3.2.2.2.2.2.2.2.2.2.2.2.1
def dX11_many_106 := dc_cX11_many_dX11_many_86_3.2.2.2.2.2.2.2.2.2.2.2.2.1
def dX11_many_107 := dc_cX11_many_dX11_many_86_3.2.2.2.2.2.2.2.2.2.2.2.2.2.1
def dX11_many_108 := dc_cX11_many_dX11_many_86_3.2.2.2.2.2.2.2.2.2.2.2.2.2.2.1
def dX11_many_110 := dc_cX11_many_dX11_many_86_3.2.2.2.2.2.2.2.2.2.2.2.2.2.2.2
set_option maxRecDepth 100000 in
theorem db_cX11_many_dX11_many_113_4 : zw [(113, .aload_n 0, 1), (114, .getfield 16, 3), (117, .iload_n 1, 1), (118, .iaload, 1), (119, .iand, 1), (120, .ifCond .eq 7, 3), (123, .iconst 1, 1), (124, .goto 4, 3), (127, .iconst 0, 1), (128, .iadd, 1), (129, .istore 4, 2), (131, .iinc 5 1, 3), (134, .goto (-40), 3), (137, .iload 4, 2), (139, .ireturn, 1)] (cX11_many.data.toList.drop 113) 113 = true := by decide +kernel
def dc_cX11_many_dX11_many_113_4 := zw_15 db_cX11_many_dX11_many_113_4
def dX11_many_113 := dc_cX11_many_dX11_many_113_4.1
def dX11_many_114 := dc_cX11_many_dX11_many_113_4.2.1
def dX11_many_117 := dc_cX11_many_dX11_many_113_4.2.2.1
def dX11_many_118 := dc_cX11_many_dX11_many_113_4.2.2.2.1
def dX11_many_119 := dc_cX11_many_dX11_many_113_4.2.2.2.2.1
def dX11_many_120 := dc_cX11_many_dX11_many_113_4.2.2.2.2.2.1
def dX11_many_123 := dc_cX11_many_dX11_many_113_4.2.2.2.2.2.2.1
def dX11_many_124 := dc_cX11_many_dX11_many_113_4.2.2.2.2.2.2.2.1
def dX11_many_127 := dc_cX11_many_dX11_many_113_4.2.2.2.2.2.2.2.2.1
def dX11_many_128 := dc_cX11_many_dX11_many_113_4.2.2.2.2.2.2.2.2.2.1
def dX11_many_129 := dc_cX11_many_dX11_many_113_4.2.2.2.2.2.2.2.2.2.2.1
def dX11_many_131 := dc_cX11_many_dX11_many_113_4.2.2.2.2.2.2.2.2.2.2.2.1
def dX11_many_134 := dc_cX11_many_dX11_many_113_4.2.2.2.2.2.2.2.2.2.2.2.2.1
def dX11_many_137 := dc_cX11_many_dX11_many_113_4.2.2.2.2.2.2.2.2.2.2.2.2.2.1
def dX11_many_139 := dc_cX11_many_dX11_many_113_4.2.2.2.2.2.2.2.2.2.2.2.2.2.2
set_option maxRecDepth 100000 in
theorem db_cX11_isAlike_dX11_isAlike_0_0 : zw [(0, .aload_n 0, 1), (1, .iload_n 1, 1), (2, .invokestatic 93, 3), (5, .ifCond .eq 14, 3), (8, .iload_n 2, 1), (9, .invokestatic 93, 3), (12, .ifCond .eq 7, 3), (15, .iconst 1, 1), (16, .goto 4, 3), (19, .iconst 0, 1), (20, .iload_n 3, 1), (21, .iconst 0, 1), (22, .iconst 1, 1), (23, .invokestatic 26, 3), (26, .invokevirtual 97, 3), (29, .ifCond .eq 5, 3)] (cX11_isAlike.data.toList.drop 0) 0 = true := by decide +kernel
def dc_cX11_isAlike_dX11_isAlike_0_0 := zw_16 db_cX11_isAlike_dX11_isAlike_0_0
def dX11_isAlike_0 := dc_cX11_isAlike_dX11_isAlike_0_0.1
def dX11_isAlike_1 := dc_cX11_isAlike_dX11_isAlike_0_0.2.1
def dX11_isAlike_2 := dc_cX11_isAlike_dX11_isAlike_0_0.2.2.1
def dX11_isAlike_5 := dc_cX11_isAlike_dX11_isAlike_0_0.2.2.2.1
def dX11_isAlike_8 := dc_cX11_isAlike_dX11_isAlike_0_0.2.2.2.2.1
def dX11_isAlike_9 := dc_cX11_isAlike_dX11_isAlike_0_0.2.2.2.2.2.1
def dX11_isAlike_12 := dc_cX11_isAlike_dX11_isAlike_0_0.2.2.2.2.2.2.1
def dX11_isAlike_15 := dc_cX11_isAlike_dX11_isAlike_0_0.2.2.2.2.2.2.2.1
def dX11_isAlike_16 := dc_cX11_isAlike_dX11_isAlike_0_0.2.2.2.2.2.2.2.2.1
def dX11_isAlike_19 := dc_cX11_isAlike_dX11_isAlike_0_0.2.2.2.2.2.2.2.2.2.1
def dX11_isAlike_20 := dc_cX11_isAlike_dX11_isAlike_0_0.2.2.2.2.2.2.2.2.2.2.1
def dX11_isAlike_21 := dc_cX11_isAlike_dX11_isAlike_0_0.2.2.2.2.2.2.2.2.2.2.2.1
def dX11_isAlike_22 := dc_cX11_isAlike_dX11_isAlike_0_0.2.2.2.2.2.2.2.2.2.2.2.2.1
def dX11_isAlike_23 := dc_cX11_isAlike_dX11_isAlike_0_0.2.2.2.2.2.2.2.2.2.2.2.2.2.1
def dX11_isAlike_26 := dc_cX11_isAlike_dX11_isAlike_0_0.2.2.2.2.2.2.2.2.2.2.2.2.2.2.1
def dX11_isAlike_29 := dc_cX11_isAlike_dX11_isAlike_0_0.2.2.2.2.2.2.2.2.2.2.2.2.2.2.2
set_option maxRecDepth 100000 in
theorem db_cX11_isAlike_dX11_isAlike_32_1 : zw [(32, .iconst 0, 1), (33, .ireturn, 1), (34, .iload_n 3, 1), (35, .ifCond .ne 38, 3), (38, .aload_n 0, 1), (39, .iload_n 1, 1), (40, .iload_n 2, 1), (41, .invokevirtual 192, 3), (44, .astore 4, 2), (46, .aload_n 0, 1), (47, .aload 4, 2), (49, .iconst 3, 1), (50, .invokevirtual 159, 3), (53, .ifCond .ne 18, 3), (56, .aload_n 0, 1), (57, .iload_n 1, 1)] (cX11_isAlike.data.toList.drop 32) 32 = true := by decide +kernel
def dc_cX11_isAlike_dX11_isAlike_32_1 := zw_16 db_cX11_isAlike_dX11_isAlike_32_1
def dX11_isAlike_32 := dc_cX11_isAlike_dX11_isAlike_32_1.1
def dX11_isAlike_33 := dc_cX11_isAlike_dX11_isAlike_32_1.2.1
def dX11_isAlike_34 := dc_cX11_isAlike_dX11_isAlike_32_1.2.2.1
def dX11_isAlike_35 := dc_cX11_isAlike_dX11_isAlike_32_1.2.2.2.1
def dX11_isAlike_38 := dc_cX11_isAlike_dX11_isAlike_32_1.2.2.2.2.1
def dX11_isAlike_39 := dc_cX11_isAlike_dX11_isAlike_32_1.2.2.2.2.2.1
def dX11_isAlike_40 := dc_cX11_isAlike_dX11_isAlike_32_1.2.2.2.2.2.2.1
def dX11_isAlike_41 := dc_cX11_isAlike_dX11_isAlike_32_1.2.2.2.2.2.2.2.1
def dX11_isAlike_44 := dc_cX11_isAlike_dX11_isAlike_32_1.2.2.2.2.2.2.2.2.1
def dX11_isAlike_46 := dc_cX11_isAlike_dX11_isAlike_32_1.2.2.2.2.2.2.2.2.2.1
def dX11_isAlike_47 := dc_cX11_isAlike_dX11_isAlike_32_1.2.2.2.2.2.2.2.2.2.2.1
def dX11_isAlike_49 := dc_cX11_isAlike_dX11_isAlike_32_1.2.2.2.2.2.2.2.2.2.2.2.1
def dX11_isAlike_50 := dc_cX11_isAlike_dX11_isAlike_32_1.2.2.2.2.2.2.2.2.2.2.2.2.1
def dX11_isAlike_53 := dc_cX11_isAlike_dX11_isAlike_32_1.2.2.2.2.2.2.2.2.2.2.2.2.2.1
def dX11_isAlike_56 := dc_cX11_isAlike_dX11_isAlike_32_1.2.2.2.2.2.2.2.2.2.2.2.2.2.2.1
def dX11_isAlike_57 := dc_cX11_isAlike_dX11_isAlike_32_1.2.2.2.2.2.2.2.2.2.2.2.2.2.2.2
set_option maxRecDepth 100000 in
theorem db_cX11_isAlike_dX11_isAlike_58_2 : zw [(58, .iload_n 2, 1), (59, .aload 4, 2), (61, .invokevirtual 195, 3), (64, .ifCond .ne 7, 3), (67, .iconst 1, 1), (68, .goto 4, 3), (71, .iconst 0, 1), (72, .ireturn, 1), (73, .aload_n 0, 1), (74, .iload_n 1, 1), (75, .iconst 0, 1), (76, .invokevirtual 138, 3), (79, .astore 4, 2), (81, .aload_n 0, 1), (82, .iload_n 2, 1), (83, .iconst 0, 1)] (cX11_isAlike.data.toList.drop 58) 58 = true := by decide +kernel
def dc_cX11_isAlike_dX11_isAlike_58_2 := zw_16 db_cX11_isAlike_dX11_isAlike_58_2
def dX11_isAlike_58 := dc_cX11_isAlike_dX11_isAlike_58_2.1
def dX11_isAlike_59 := dc_cX11_isAlike_dX11_isAlike_58_2.2.1
def dX11_isAlike_61 := dc_cX11_isAlike_dX11_isAlike_58_2.2.2.1
def dX11_isAlike_64 := dc_cX11_isAlike_dX11_isAlike_58_2.2.2.2.1
def dX11_isAlike_67 := dc_cX11_isAlike_dX11_isAlike_58_2.2.2.2.2.1
def dX11_isAlike_68 := dc_cX11_isAlike_dX11_isAlike_58_2.2.2.2.2.2.1
def dX11_isAlike_71 := dc_cX11_isAlike_dX11_isAlike_58_2.2.2.2.2.2.2.1
def dX11_isAlike_72 := dc_cX11_isAlike_dX11_isAlike_58_2.2.2.2.2.2.2.2.1
def dX11_isAlike_73 := dc_cX11_isAlike_dX11_isAlike_58_2.2.2.2.2.2.2.2.2.1
def dX11_isAlike_74 := dc_cX11_isAlike_dX11_isAlike_58_2.2.2.2.2.2.2.2.2.2.1
def dX11_isAlike_75 := dc_cX11_isAlike_dX11_isAlike_58_2.2.2.2.2.2.2.2.2.2.2.1
def dX11_isAlike_76 := dc_cX11_isAlike_dX11_isAlike_58_2.2.2.2.2.2.2.2.2.2.2.2.1
def dX11_isAlike_79 := dc_cX11_isAlike_dX11_isAlike_58_2.2.2.2.2.2.2.2.2.2.2.2.2.1
def dX11_isAlike_81 := dc_cX11_isAlike_dX11_isAlike_58_2.2.2.2.2.2.2.2.2.2.2.2.2.2.1
def dX11_isAlike_82 := dc_cX11_isAlike_dX11_isAlike_58_2.2.2.2.2.2.2.2.2.2.2.2.2.2.2.1
def dX11_isAlike_83 := dc_cX11_isAlike_dX11_isAlike_58_2.2.2.2.2.2.2.2.2.2.2.2.2.2.2.2
set_option maxRecDepth 100000 in
theorem db_cX11_isAlike_dX11_isAlike_84_3 : zw [(84, .invokevirtual 138, 3), (87, .astore 5, 2), (89, .aload_n 0, 1), (90, .aload 4, 2), (92, .iconst 3, 1), (93, .invokevirtual 159, 3), (96, .ifCond .ne 13, 3), (99, .aload_n 0, 1), (100, .aload 5, 2), (102, .iconst 3, 1), (103, .invokevirtual 159, 3), (106, .ifCond .eq 5, 3), (109, .iconst 0, 1), (110, .ireturn, 1), (111, .aload 4, 2), (113, .arraylength, 1)] (cX11_isAlike.data.toList.drop 84) 84 = true := by decide +kernel
def dc_cX11_isAlike_dX11_isAlike_84_3 := zw_16 db_cX11_isAlike_dX11_isAlike_84_3
def dX11_isAlike_84 := dc_cX11_isAlike_dX11_isAlike_84_3.1
def dX11_isAlike_87 := dc_cX11_isAlike_dX11_isAlike_84_3.2.1
def dX11_isAlike_89 := dc_cX11_isAlike_dX11_isAlike_84_3.2.2.1
def dX11_isAlike_90 := dc_cX11_isAlike_dX11_isAlike_84_3.2.2.2.1
def dX11_isAlike_92 := dc_cX11_isAlike_dX11_isAlike_84_3.2.2.2.2.1
def dX11_isAlike_93 := dc_cX11_isAlike_dX11_isAlike_84_3.2.2.2.2.2.1
def dX11_isAlike_96 := dc_cX11_isAlike_dX11_isAlike_84_3.2.2.2.2.2.2.1
def dX11_isAlike_99 := dc_cX11_isAlike_dX11_isAlike_84_3.2.2.2.2.2.2.2.1
def dX11_isAlike_100 := dc_cX11_isAlike_dX11_isAlike_84_3.2.2.2.2.2.2.2.2.1
def dX11_isAlike_102 := dc_cX11_isAlike_dX11_isAlike_84_3.2.2.2.2.2.2.2.2.2.1
def dX11_isAlike_103 := dc_cX11_isAlike_dX11_isAlike_84_3.2.2.2.2.2.2.2.2.2.2.1
def dX11_isAlike_106 := dc_cX11_isAlike_dX11_isAlike_84_3.2.2.2.2.2.2.2.2.2.2.2.1
def dX11_isAlike_109 := dc_cX11_isAlike_dX11_isAlike_84_3.2.2.2.2.2.2.2.2.2.2.2.2.1
def dX11_isAlike_110 := dc_cX11_isAlike_dX11_isAlike_84_3.2.2.2.2.2.2.2.2.2.2.2.2.2.1
def dX11_isAlike_111 := dc_cX11_isAlike_dX11_isAlike_84_3.2.2.2.2.2.2.2.2.2.2.2.2.2.2.1
def dX11_isAlike_113 := dc_cX11_isAlike_dX11_isAlike_84_3.2.2.2.2.2.2.2.2.2.2.2.2.2.2.2
set_option maxRecDepth 100000 in
theorem db_cX11_isAlike_dX11_isAlike_114_4 : zw [(114, .aload 5, 2), (116, .arraylength, 1), (117, .if_icmp .ne 7, 3), (120, .iconst 1, 1), (121, .goto 4, 3), (124, .iconst 0, 1), (125, .istore 6, 2), (127, .iconst 0, 1), (128, .istore 7, 2), (130, .iload 6, 2), (132, .ifCond .eq 37, 3), (135, .iload 7, 2), (137, .aload 4, 2), (139, .arraylength, 1), (140, .if_icmp .ge 29, 3), (143, .aload 4, 2)] (cX11_isAlike.data.toList.drop 114) 114 = true := by decide +kernel
def dc_cX11_isAlike_dX11_isAlike_114_4 := zw_16 db_cX11_isAlike_dX11_isAlike_114_4
def dX11_isAlike_114 := dc_cX11_isAlike_dX11_isAlike_114_4.1
def dX11_isAlike_116 := dc_cX11_isAlike_dX11_isAlike_114_4.2.1
def dX11_isAlike_117 := dc_cX11_isAlike_dX11_isAlike_114_4.2.2.1
def dX11_isAlike_120 := dc_cX11_isAlike_dX11_isAlike_114_4.2.2.2.1
def dX11_isAlike_121 := dc_cX11_isAlike_dX11_isAlike_114_4.2.2.2.2.1
def dX11_isAlike_124 := dc_cX11_isAlike_dX11_isAlike_114_4.2.2.2.2.2.1
def dX11_isAlike_125 := dc_cX11_isAlike_dX11_isAlike_114_4.2.2.2.2.2.2.1
def dX11_isAlike_127 := dc_cX11_isAlike_dX11_isAlike_114_4.2.2.2.2.2.2.2.1
def dX11_isAlike_128 := dc_cX11_isAlike_dX11_isAlike_114_4.2.2.2.2.2.2.2.2.1
def dX11_isAlike_130 := dc_cX11_isAlike_dX11_isAlike_114_4.2.2.2.2.2.2.2.2.2.1
def dX11_isAlike_132 := dc_cX11_isAlike_dX11_isAlike_114_4.2.2.2.2.2.2.2.2.2.2.1
def dX11_isAlike_135 := dc_cX11_isAlike_dX11_isAlike_114_4.2.2.2.2.2.2.2.2.2.2.2.1
def dX11_isAlike_137 := dc_cX11_isAlike_dX11_isAlike_114_4.2.2.2.2.2.2.2.2.2.2.2.2.1
def dX11_isAlike_139 := dc_cX11_isAlike_dX11_isAlike_114_4.2.2.2.2.2.2.2.2.2.2.2.2.2.1
def dX11_isAlike_140 := dc_cX11_isAlike_dX11_isAlike_114_4.2.2.2.2.2.2.2.2.2.2.2.2.2.2.1
def dX11_isAlike_143 := dc_cX11_isAlike_dX11_isAlike_114_4.2.2.2.2.2.2.2.2.2.2.2.2.2.2.2
set_option maxRecDepth 100000 in
theorem db_cX11_isAlike_dX11_isAlike_145_5 : zw [(145, .iload 7, 2), (147, .iaload, 1), (148, .aload 5, 2), (150, .iload 7, 2), (152, .iaload, 1), (153, .if_icmp .ne 7, 3), (156, .iconst 1, 1), (157, .goto 4, 3), (160, .iconst 0, 1), (161, .istore 6, 2), (163, .iinc 7 1, 3), (166, .goto (-36), 3), (169, .iload 6, 2), (171, .ireturn, 1)] (cX11_isAlike.data.toList.drop 145) 145 = true := by decide +kernel
def dc_cX11_isAlike_dX11_isAlike_145_5 := zw_14 db_cX11_isAlike_dX11_isAlike_145_5
def dX11_isAlike_145 := dc_cX11_isAlike_dX11_isAlike_145_5.1
def dX11_isAlike_147 := dc_cX11_isAlike_dX11_isAlike_145_5.2.1
def dX11_isAlike_148 := dc_cX11_isAlike_dX11_isAlike_145_5.2.2.1
def dX11_isAlike_150 := dc_cX11_isAlike_dX11_isAlike_145_5.2.2.2.1
def dX11_isAlike_152 := dc_cX11_isAlike_dX11_isAlike_145_5.2.2.2.2.1
def dX11_isAlike_153 := dc_cX11_isAlike_dX11_isAlike_145_5.2.2.2.2.2.1
def dX11_isAlike_156 := dc_cX11_isAlike_dX11_isAlike_145_5.2.2.2.2.2.2.1
def dX11_isAlike_157 := dc_cX11_isAlike_dX11_isAlike_145_5.2.2.2.2.2.2.2.1
def dX11_isAlike_160 := dc_cX11_isAlike_dX11_isAlike_145_5.2.2.2.2.2.2.2.2.1
def dX11_isAlike_161 := dc_cX11_isAlike_dX11_isAlike_145_5.2.2.2.2.2.2.2.2.2.1
def dX11_isAlike_163 := dc_cX11_isAlike_dX11_isAlike_145_5.2.2.2.2.2.2.2.2.2.2.1
def dX11_isAlike_166 := dc_cX11_isAlike_dX11_isAlike_145_5.2.2.2.2.2.2.2.2.2.2.2.1
def dX11_isAlike_169 := dc_cX11_isAlike_dX11_isAlike_145_5.2.2.2.2.2.2.2.2.2.2.2.2.1
def dX11_isAlike_171 := dc_cX11_isAlike_dX11_isAlike_145_5.2.2.2.2.2.2.2.2.2.2.2.2.2
set_option maxRecDepth 100000 in
theorem db_cX11_pairs_dX11_pairs_0_0 : zw [(0, .aload_n 0, 1), (1, .iload_n 1, 1), (2, .invokestatic 93, 3), (5, .ifCond .eq 14, 3), (8, .iload_n 2, 1), (9, .invokestatic 93, 3), (12, .ifCond .eq 7, 3), (15, .iconst 1, 1), (16, .goto 4, 3), (19, .iconst 0, 1), (20, .iconst 1, 1), (21, .invokevirtual 97, 3), (24, .ifCond .eq 5, 3), (27, .iconst 0, 1), (28, .ireturn, 1), (29, .aload_n 0, 1)] (cX11_pairs.data.toList.drop 0) 0 = true := by decide +kernel
def dc_cX11_pairs_dX11_pairs_0_0 := zw_16 db_cX11_pairs_dX11_pairs_0_0
def dX11_pairs_0 := dc_cX11_pairs_dX11_pairs_0_0.1
def dX11_pairs_1 := dc_cX11_pairs_dX11_pairs_0_0.2.1
def dX11_pairs_2 := dc_cX11_pairs_dX11_pairs_0_0.2.2.1
def dX11_pairs_5 := dc_cX11_pairs_dX11_pairs_0_0.2.2.2.1
def dX11_pairs_8 := dc_cX11_pairs_dX11_pairs_0_0.2.2.2.2.1
def dX11_pairs_9 := dc_cX11_pairs_dX11_pairs_0_0.2.2.2.2.2.1
def dX11_pairs_12 := dc_cX11_pairs_dX11_pairs_0_0.2.2.2.2.2.2.1
def dX11_pairs_15 := dc_cX11_pairs_dX11_pairs_0_0.2.2.2.2.2.2.2.1
def dX11_pairs_16 := dc_cX11_pairs_dX11_pairs_0_0.2.2.2.2.2.2.2.2.1
def dX11_pairs_19 := dc_cX11_pairs_dX11_pairs_0_0.2.2.2.2.2.2.2.2.2.1
def dX11_pairs_20 := dc_cX11_pairs_dX11_pairs_0_0.2.2.2.2.2.2.2.2.2.2.1
def dX11_pairs_21 := dc_cX11_pairs_dX11_pairs_0_0.2.2.2.2.2.2.2.2.2.2.2.1
def dX11_pairs_24 := dc_cX11_pairs_dX11_pairs_0_0.2.2.2.2.2.2.2.2.2.2.2.2.1
def dX11_pairs_27 := dc_cX11_pairs_dX11_pairs_0_0.2.2.2.2.2.2.2.2.2.2.2.2.2.1
def dX11_pairs_28 := dc_cX11_pairs_dX11_pairs_0_0.2.2.2.2.2.2.2.2.2.2.2.2.2.2.1
def dX11_pairs_29 := dc_cX11_pairs_dX11_pairs_0_0.2.2.2.2.2.2.2.2.2.2.2.2.2.2.2
set_option maxRecDepth 100000 in
theorem db_cX11_pairs_dX11_pairs_30_1 : zw [(30, .iload_n 1, 1), (31, .iload_n 2, 1), (32, .invokevirtual 192, 3), (35, .astore_n 3, 1), (36, .aload_n 0, 1), (37, .aload_n 3, 1), (38, .iconst 2, 1), (39, .invokevirtual 159, 3), (42, .ifCond .eq 7, 3), (45, .iconst 0, 1), (46, .goto 6, 3), (49, .aload_n 3, 1), (50, .iconst 0, 1), (51, .iaload, 1), (52, .ireturn, 1)] (cX11_pairs.data.toList.drop 30) 30 = true := by decide +kernel
def dc_cX11_pairs_dX11_pairs_30_1 := zw_15 db_cX11_pairs_dX11_pairs_30_1
def dX11_pairs_30 := dc_cX11_pairs_dX11_pairs_30_1.1
def dX11_pairs_31 := dc_cX11_pairs_dX11_pairs_30_1.2.1
def dX11_pairs_32 := dc_cX11_pairs_dX11_pairs_30_1.2.2.1
def dX11_pairs_35 := dc_cX11_pairs_dX11_pairs_30_1.2.2.2.1
def dX11_pairs_36 := dc_cX11_pairs_dX11_pairs_30_1.2.2.2.2.1
def dX11_pairs_37 := dc_cX11_pairs_dX11_pairs_30_1.2.2.2.2.2.1
def dX11_pairs_38 := dc_cX11_pairs_dX11_pairs_30_1.2.2.2.2.2.2.1
def dX11_pairs_39 := dc_cX11_pairs_dX11_pairs_30_1.2.2.2.2.2.2.2.1
def dX11_pairs_42 := dc_cX11_pairs_dX11_pairs_30_1.2.2.2.2.2.2.2.2.1
def dX11_pairs_45 := dc_cX11_pairs_dX11_pairs_30_1.2.2.2.2.2.2.2.2.2.1
def dX11_pairs_46 := dc_cX11_pairs_dX11_pairs_30_1.2.2.2.2.2.2.2.2.2.2.1
def dX11_pairs_49 := dc_cX11_pairs_dX11_pairs_30_1.2.2.2.2.2.2.2.2.2.2.2.1
def dX11_pairs_50 := dc_cX11_pairs_dX11_pairs_30_1.2.2.2.2.2.2.2.2.2.2.2.2.1
def dX11_pairs_51 := dc_cX11_pairs_dX11_pairs_30_1.2.2.2.2.2.2.2.2.2.2.2.2.2.1
def dX11_pairs_52 := dc_cX11_pairs_dX11_pairs_30_1.2.2.2.2.2.2.2.2.2.2.2.2.2.2
set_option maxRecDepth 100000 in
theorem db_cX11_together_dX11_together_0_0 : zw [(0, .aload_n 0, 1), (1, .iload_n 1, 1), (2, .invokestatic 93, 3), (5, .ifCond .eq 14, 3), (8, .iload_n 2, 1), (9, .invokestatic 93, 3), (12, .ifCond .eq 7, 3), (15, .iconst 1, 1), (16, .goto 4, 3), (19, .iconst 0, 1), (20, .iload_n 3, 1), (21, .iconst 0, 1), (22, .iconst 3, 1), (23, .invokestatic 26, 3), (26, .ifCond .eq 18, 3), (29, .iload 4, 2)] (cX11_together.data.toList.drop 0) 0 = true := by decide +kernel
def dc_cX11_together_dX11_together_0_0 := zw_16 db_cX11_together_dX11_together_0_0
def dX11_together_0 := dc_cX11_together_dX11_together_0_0.1
def dX11_together_1 := dc_cX11_together_dX11_together_0_0.2.1
def dX11_together_2 := dc_cX11_together_dX11_together_0_0.2.2.1
def dX11_together_5 := dc_cX11_together_dX11_together_0_0.2.2.2.1
def dX11_together_8 := dc_cX11_together_dX11_together_0_0.2.2.2.2.1
def dX11_together_9 := dc_cX11_together_dX11_together_0_0.2.2.2.2.2.1
def dX11_together_12 := dc_cX11_together_dX11_together_0_0.2.2.2.2.2.2.1
def dX11_together_15 := dc_cX11_together_dX11_together_0_0.2.2.2.2.2.2.2.1
def dX11_together_16 := dc_cX11_together_dX11_together_0_0.2.2.2.2.2.2.2.2.1
def dX11_together_19 := dc_cX11_together_dX11_together_0_0.2.2.2.2.2.2.2.2.2.1
def dX11_together_20 := dc_cX11_together_dX11_together_0_0.2.2.2.2.2.2.2.2.2.2.1
def dX11_together_21 := dc_cX11_together_dX11_together_0_0.2.2.2.2.2.2.2.2.2.2.2.1
def dX11_together_22 := dc_cX11_together_dX11_together_0_0.2.2.2.2.2.2.2.2.2.2.2.2.1
def dX11_together_23 := dc_cX11_together_dX11_together_0_0.2.2.2.2.2.2.2.2.2.2.2.2.2.1
def dX11_together_26 := dc_cX11_together_dX11_together_0_0.2.2.2.2.2.2.2.2.2.2.2.2.2.2.1
def dX11_together_29 := dc_cX11_together_dX11_together_0_0.2.2.2.2.2.2.2.2.2.2.2.2.2.2.2
set_option maxRecDepth 100000 in
theorem db_cX11_together_dX11_together_31_1 : zw [(31, .iconst (-1), 1), (32, .bipush 12, 2), (34, .invokestatic 26, 3), (37, .ifCond .eq 7, 3), (40, .iconst 1, 1), (41, .goto 4, 3), (44, .iconst 0, 1), (45, .invokevirtual 97, 3), (48, .ifCond .eq 5, 3), (51, .iconst 0, 1), (52, .ireturn, 1), (53, .aload_n 0, 1), (54, .iload_n 1, 1), (55, .iload_n 2, 1), (56, .iload_n 3, 1), (57, .invokevirtual 146, 3)] (cX11_together.data.toList.drop 31) 31 = true := by decide +kernel
def dc_cX11_together_dX11_together_31_1 := zw_16 db_cX11_together_dX11_together_31_1
def dX11_together_31 := dc_cX11_together_dX11_together_31_1.1
def dX11_together_32 := dc_cX11_together_dX11_together_31_1.2.1
def dX11_together_34 := dc_cX11_together_dX11_together_31_1.2.2.1
def dX11_together_37 := dc_cX11_together_dX11_together_31_1.2.2.2.1
def dX11_together_40 := dc_cX11_together_dX11_together_31_1.2.2.2.2.1
def dX11_together_41 := dc_cX11_together_dX11_together_31_1.2.2.2.2.2.1
def dX11_together_44 := dc_cX11_together_dX11_together_31_1.2.2.2.2.2.2.1
def dX11_together_45 := dc_cX11_together_dX11_together_31_1.2.2.2.2.2.2.2.1
def dX11_together_48 := dc_cX11_together_dX11_together_31_1.2.2.2.2.2.2.2.2.1
def dX11_together_51 := dc_cX11_together_dX11_together_31_1.2.2.2.2.2.2.2.2.2.1
def dX11_together_52 := dc_cX11_together_dX11_together_31_1.2.2.2.2.2.2.2.2.2.2.1
def dX11_together_53 := dc_cX11_together_dX11_together_31_1.2.2.2.2.2.2.2.2.2.2.2.1
def dX11_together_54 := dc_cX11_together_dX11_together_31_1.2.2.2.2.2.2.2.2.2.2.2.2.1
def dX11_together_55 := dc_cX11_together_dX11_together_31_1.2.2.2.2.2.2.2.2.2.2.2.2.2.1
def dX11_together_56 := dc_cX11_together_dX11_together_31_1.2.2.2.2.2.2.2.2.2.2.2.2.2.2.1
def dX11_together_57 := dc_cX11_together_dX11_together_31_1.2.2.2.2.2.2.2.2.2.2.2.2.2.2.2
set_option maxRecDepth 100000 in
theorem db_cX11_together_dX11_together_60_2 : zw [(60, .invokestatic 76, 3), (63, .astore 5, 2), (65, .aload_n 0, 1), (66, .aload 5, 2), (68, .iconst 3, 1), (69, .invokevirtual 159, 3), (72, .ifCond .eq 5, 3), (75, .iconst 0, 1), (76, .ireturn, 1), (77, .iload 4, 2), (79, .iconst (-1), 1), (80, .if_icmp .ne 11, 3), (83, .aload 5, 2), (85, .arraylength, 1), (86, .iconst 4, 1), (87, .idiv, 1)] (cX11_together.data.toList.drop 60) 60 = true := by decide +kernel
def dc_cX11_together_dX11_together_60_2 := zw_16 db_cX11_together_dX11_together_60_2
def dX11_together_60 := dc_cX11_together_dX11_together_60_2.1
def dX11_together_63 := dc_cX11_together_dX11_together_60_2.2.1
def dX11_together_65 := dc_cX11_together_dX11_together_60_2.2.2.1
def dX11_together_66 := dc_cX11_together_dX11_together_60_2.2.2.2.1
def dX11_together_68 := dc_cX11_together_dX11_together_60_2.2.2.2.2.1
def dX11_together_69 := dc_cX11_together_dX11_together_60_2.2.2.2.2.2.1
def dX11_together_72 := dc_cX11_together_dX11_together_60_2.2.2.2.2.2.2.1
def dX11_together_75 := dc_cX11_together_dX11_together_60_2.2.2.2.2.2.2.2.1
def dX11_together_76 := dc_cX11_together_dX11_together_60_2.2.2.2.2.2.2.2.2.1
def dX11_together_77 := dc_cX11_together_dX11_together_60_2.2.2.2.2.2.2.2.2.2.1
def dX11_together_79 := dc_cX11_together_dX11_together_60_2.2.2.2.2.2.2.2.2.2.2.1
def dX11_together_80 := dc_cX11_together_dX11_together_60_2.2.2.2.2.2.2.2.2.2.2.2.1
def dX11_together_83 := dc_cX11_together_dX11_together_60_2.2.2.2.2.2.2.2.2.2.2.2.2.1
def dX11_together_85 := dc_cX11_together_dX11_together_60_2.2.2.2.2.2.2.2.2.2.2.2.2.2.1
def dX11_together_86 := dc_cX11_together_dX11_together_60_2.2.2.2.2.2.2.2.2.2.2.2.2.2.2.1
def dX11_together_87 := dc_cX11_together_dX11_together_60_2.2.2.2.2.2.2.2.2.2.2.2.2.2.2.2
set_option maxRecDepth 100000 in
theorem db_cX11_together_dX11_together_88_3 : zw [(88, .goto 19, 3), (91, .aload 5, 2), (93, .iload 4, 2), (95, .invokestatic 189, 3), (98, .iload 4, 2), (100, .aload 5, 2), (102, .arraylength, 1), (103, .iconst 4, 1), (104, .idiv, 1), (105, .imul, 1), (106, .iaload, 1), (107, .ireturn, 1)] (cX11_together.data.toList.drop 88) 88 = true := by decide +kernel
def dc_cX11_together_dX11_together_88_3 := zw_12 db_cX11_together_dX11_together_88_3
def dX11_together_88 := dc_cX11_together_dX11_together_88_3.1
def dX11_together_91 := dc_cX11_together_dX11_together_88_3.2.1
def dX11_together_93 := dc_cX11_together_dX11_together_88_3.2.2.1
def dX11_together_95 := dc_cX11_together_dX11_together_88_3.2.2.2.1
def dX11_together_98 := dc_cX11_together_dX11_together_88_3.2.2.2.2.1
def dX11_together_100 := dc_cX11_together_dX11_together_88_3.2.2.2.2.2.1
def dX11_together_102 := dc_cX11_together_dX11_together_88_3.2.2.2.2.2.2.1
def dX11_together_103 := dc_cX11_together_dX11_together_88_3.2.2.2.2.2.2.2.1
def dX11_together_104 := dc_cX11_together_dX11_together_88_3.2.2.2.2.2.2.2.2.1
def dX11_together_105 := dc_cX11_together_dX11_together_88_3.2.2.2.2.2.2.2.2.2.1
def dX11_together_106 := dc_cX11_together_dX11_together_88_3.2.2.2.2.2.2.2.2.2.2.1
def dX11_together_107 := dc_cX11_together_dX11_together_88_3.2.2.2.2.2.2.2.2.2.2.2
set_option maxRecDepth 100000 in
theorem db_cX11_house_dX11_house_0_0 : zw [(0, .aload_n 0, 1), (1, .iload_n 1, 1), (2, .iconst 0, 1), (3, .iconst 2, 1), (4, .invokestatic 26, 3), (7, .iconst 1, 1), (8, .invokevirtual 97, 3), (11, .ifCond .eq 5, 3), (14, .iconst 0, 1), (15, .ireturn, 1), (16, .iload_n 1, 1), (17, .ifCond .ne 10, 3), (20, .aload_n 0, 1), (21, .getfield 30, 3), (24, .goto 19, 3), (27, .iload_n 1, 1)] (cX11_house.data.toList.drop 0) 0 = true := by decide +kernel
def dc_cX11_house_dX11_house_0_0 := zw_16 db_cX11_house_dX11_house_0_0
def dX11_house_0 := dc_cX11_house_dX11_house_0_0.1
def dX11_house_1 := dc_cX11_house_dX11_house_0_0.2.1
def dX11_house_2 := dc_cX11_house_dX11_house_0_0.2.2.1
def dX11_house_3 := dc_cX11_house_dX11_house_0_0.2.2.2.1
def dX11_house_4 := dc_cX11_house_dX11_house_0_0.2.2.2.2.1
def dX11_house_7 := dc_cX11_house_dX11_house_0_0.2.2.2.2.2.1
def dX11_house_8 := dc_cX11_house_dX11_house_0_0.2.2.2.2.2.2.1
def dX11_house_11 := dc_cX11_house_dX11_house_0_0.2.2.2.2.2.2.2.1
def dX11_house_14 := dc_cX11_house_dX11_house_0_0.2.2.2.2.2.2.2.2.1
def dX11_house_15 := dc_cX11_house_dX11_house_0_0.2.2.2.2.2.2.2.2.2.1
def dX11_house_16 := dc_cX11_house_dX11_house_0_0.2.2.2.2.2.2.2.2.2.2.1
def dX11_house_17 := dc_cX11_house_dX11_house_0_0.2.2.2.2.2.2.2.2.2.2.2.1
def dX11_house_20 := dc_cX11_house_dX11_house_0_0.2.2.2.2.2.2.2.2.2.2.2.2.1
def dX11_house_21 := dc_cX11_house_dX11_house_0_0.2.2.2.2.2.2.2.2.2.2.2.2.2.1
def dX11_house_24 := dc_cX11_house_dX11_house_0_0.2.2.2.2.2.2.2.2.2.2.2.2.2.2.1
def dX11_house_27 := dc_cX11_house_dX11_house_0_0.2.2.2.2.2.2.2.2.2.2.2.2.2.2.2
set_option maxRecDepth 100000 in
theorem db_cX11_house_dX11_house_28_1 : zw [(28, .iconst 1, 1), (29, .if_icmp .ne 10, 3), (32, .aload_n 0, 1), (33, .getfield 33, 3), (36, .goto 7, 3), (39, .aload_n 0, 1), (40, .getfield 201, 3), (43, .ireturn, 1)] (cX11_house.data.toList.drop 28) 28 = true := by decide +kernel
def dc_cX11_house_dX11_house_28_1 := zw_8 db_cX11_house_dX11_house_28_1
def dX11_house_28 := dc_cX11_house_dX11_house_28_1.1
def dX11_house_29 := dc_cX11_house_dX11_house_28_1.2.1
def dX11_house_32 := dc_cX11_house_dX11_house_28_1.2.2.1
def dX11_house_33 := dc_cX11_house_dX11_house_28_1.2.2.2.1
def dX11_house_36 := dc_cX11_house_dX11_house_28_1.2.2.2.2.1
def dX11_house_39 := dc_cX11_house_dX11_house_28_1.2.2.2.2.2.1
def dX11_house_40 := dc_cX11_house_dX11_house_28_1.2.2.2.2.2.2.1
def dX11_house_43 := dc_cX11_house_dX11_house_28_1.2.2.2.2.2.2.2
set_option maxRecDepth 100000 in
theorem db_cX11_knock_dX11_knock_0_0 : zw [(0, .aload_n 0, 1), (1, .iconst 0, 1), (2, .putfield 22, 3), (5, .aload_n 0, 1), (6, .dup, 1), (7, .getfield 201, 3), (10, .iconst 1, 1), (11, .iadd, 1), (12, .putfield 201, 3), (15, .aload_n 0, 1), (16, .getfield 201, 3), (19, .ireturn, 1)] (cX11_knock.data.toList.drop 0) 0 = true := by decide +kernel
def dc_cX11_knock_dX11_knock_0_0 := zw_12 db_cX11_knock_dX11_knock_0_0
def dX11_knock_0 := dc_cX11_knock_dX11_knock_0_0.1
def dX11_knock_1 := dc_cX11_knock_dX11_knock_0_0.2.1
def dX11_knock_2 := dc_cX11_knock_dX11_knock_0_0.2.2.1
def dX11_knock_5 := dc_cX11_knock_dX11_knock_0_0.2.2.2.1
def dX11_knock_6 := dc_cX11_knock_dX11_knock_0_0.2.2.2.2.1
def dX11_knock_7 := dc_cX11_knock_dX11_knock_0_0.2.2.2.2.2.1
def dX11_knock_10 := dc_cX11_knock_dX11_knock_0_0.2.2.2.2.2.2.1
def dX11_knock_11 := dc_cX11_knock_dX11_knock_0_0.2.2.2.2.2.2.2.1
def dX11_knock_12 := dc_cX11_knock_dX11_knock_0_0.2.2.2.2.2.2.2.2.1
def dX11_knock_15 := dc_cX11_knock_dX11_knock_0_0.2.2.2.2.2.2.2.2.2.1
def dX11_knock_16 := dc_cX11_knock_dX11_knock_0_0.2.2.2.2.2.2.2.2.2.2.1
def dX11_knock_19 := dc_cX11_knock_dX11_knock_0_0.2.2.2.2.2.2.2.2.2.2.2
set_option maxRecDepth 100000 in
theorem db_cX11_isSound_dX11_isSound_0_0 : zw [(0, .aload_n 0, 1), (1, .iconst 0, 1), (2, .putfield 22, 3), (5, .iconst 1, 1), (6, .ireturn, 1)] (cX11_isSound.data.toList.drop 0) 0 = true := by decide +kernel
def dc_cX11_isSound_dX11_isSound_0_0 := zw_5 db_cX11_isSound_dX11_isSound_0_0
def dX11_isSound_0 := dc_cX11_isSound_dX11_isSound_0_0.1
def dX11_isSound_1 := dc_cX11_isSound_dX11_isSound_0_0.2.1
def dX11_isSound_2 := dc_cX11_isSound_dX11_isSound_0_0.2.2.1
def dX11_isSound_5 := dc_cX11_isSound_dX11_isSound_0_0.2.2.2.1
def dX11_isSound_6 := dc_cX11_isSound_dX11_isSound_0_0.2.2.2.2
set_option maxRecDepth 100000 in
theorem db_cX11_digest_dX11_digest_0_0 : zw [(0, .ldc2_w 204, 3), (3, .lstore_n 1, 1), (4, .iconst 0, 1), (5, .istore_n 3, 1), (6, .iload_n 3, 1), (7, .iconst 4, 1), (8, .if_icmp .ge 83, 3), (11, .iconst 0, 1), (12, .istore 4, 2), (14, .iload 4, 2), (16, .iconst 5, 1), (17, .if_icmp .ge 24, 3), (20, .lload_n 1, 1), (21, .ldc2_w 206, 3), (24, .lmul, 1), (25, .aload_n 0, 1)] (cX11_digest.data.toList.drop 0) 0 = true := by decide +kernel
def dc_cX11_digest_dX11_digest_0_0 := zw_16 db_cX11_digest_dX11_digest_0_0
def dX11_digest_0 := dc_cX11_digest_dX11_digest_0_0.1
def dX11_digest_3 := dc_cX11_digest_dX11_digest_0_0.2.1
def dX11_digest_4 := dc_cX11_digest_dX11_digest_0_0.2.2.1
def dX11_digest_5 := dc_cX11_digest_dX11_digest_0_0.2.2.2.1
def dX11_digest_6 := dc_cX11_digest_dX11_digest_0_0.2.2.2.2.1
def dX11_digest_7 := dc_cX11_digest_dX11_digest_0_0.2.2.2.2.2.1
def dX11_digest_8 := dc_cX11_digest_dX11_digest_0_0.2.2.2.2.2.2.1
def dX11_digest_11 := dc_cX11_digest_dX11_digest_0_0.2.2.2.2.2.2.2.1
def dX11_digest_12 := dc_cX11_digest_dX11_digest_0_0.2.2.2.2.2.2.2.2.1
def dX11_digest_14 := dc_cX11_digest_dX11_digest_0_0.2.2.2.2.2.2.2.2.2.1
def dX11_digest_16 := dc_cX11_digest_dX11_digest_0_0.2.2.2.2.2.2.2.2.2.2.1
def dX11_digest_17 := dc_cX11_digest_dX11_digest_0_0.2.2.2.2.2.2.2.2.2.2.2.1
def dX11_digest_20 := dc_cX11_digest_dX11_digest_0_0.2.2.2.2.2.2.2.2.2.2.2.2.1
def dX11_digest_21 := dc_cX11_digest_dX11_digest_0_0.2.2.2.2.2.2.2.2.2.2.2.2.2.1
def dX11_digest_24 := dc_cX11_digest_dX11_digest_0_0.2.2.2.2.2.2.2.2.2.2.2.2.2.2.1
def dX11_digest_25 := dc_cX11_digest_dX11_digest_0_0.2.2.2.2.2.2.2.2.2.2.2.2.2.2.2
set_option maxRecDepth 100000 in
theorem db_cX11_digest_dX11_digest_26_1 : zw [(26, .iload_n 3, 1), (27, .iload 4, 2), (29, .invokevirtual 208, 3), (32, .i2l, 1), (33, .ladd, 1), (34, .lstore_n 1, 1), (35, .iinc 4 1, 3), (38, .goto (-24), 3), (41, .iconst 0, 1), (42, .istore 4, 2), (44, .iload 4, 2), (46, .aload_n 0, 1), (47, .getfield 7, 3), (50, .iload_n 3, 1), (51, .iaload, 1), (52, .iconst 3, 1)] (cX11_digest.data.toList.drop 26) 26 = true := by decide +kernel
def dc_cX11_digest_dX11_digest_26_1 := zw_16 db_cX11_digest_dX11_digest_26_1
def dX11_digest_26 := dc_cX11_digest_dX11_digest_26_1.1
def dX11_digest_27 := dc_cX11_digest_dX11_digest_26_1.2.1
def dX11_digest_29 := dc_cX11_digest_dX11_digest_26_1.2.2.1
def dX11_digest_32 := dc_cX11_digest_dX11_digest_26_1.2.2.2.1
def dX11_digest_33 := dc_cX11_digest_dX11_digest_26_1.2.2.2.2.1
def dX11_digest_34 := dc_cX11_digest_dX11_digest_26_1.2.2.2.2.2.1
def dX11_digest_35 := dc_cX11_digest_dX11_digest_26_1.2.2.2.2.2.2.1
def dX11_digest_38 := dc_cX11_digest_dX11_digest_26_1.2.2.2.2.2.2.2.1
def dX11_digest_41 := dc_cX11_digest_dX11_digest_26_1.2.2.2.2.2.2.2.2.1
def dX11_digest_42 := dc_cX11_digest_dX11_digest_26_1.2.2.2.2.2.2.2.2.2.1
def dX11_digest_44 := dc_cX11_digest_dX11_digest_26_1.2.2.2.2.2.2.2.2.2.2.1
def dX11_digest_46 := dc_cX11_digest_dX11_digest_26_1.2.2.2.2.2.2.2.2.2.2.2.1
def dX11_digest_47 := dc_cX11_digest_dX11_digest_26_1.2.2.2.2.2.2.2.2.2.2.2.2.1
def dX11_digest_50 := dc_cX11_digest_dX11_digest_26_1.2.2.2.2.2.2.2.2.2.2.2.2.2.1
def dX11_digest_51 := dc_cX11_digest_dX11_digest_26_1.2.2.2.2.2.2.2.2.2.2.2.2.2.2.1
def dX11_digest_52 := dc_cX11_digest_dX11_digest_26_1.2.2.2.2.2.2.2.2.2.2.2.2.2.2.2
set_option maxRecDepth 100000 in
theorem db_cX11_digest_dX11_digest_53_2 : zw [(53, .imul, 1), (54, .if_icmp .ge 31, 3), (57, .lload_n 1, 1), (58, .ldc2_w 206, 3), (61, .lmul, 1), (62, .aload_n 0, 1), (63, .getfield 19, 3), (66, .iload_n 3, 1), (67, .iconst 0, 1), (68, .iconst 0, 1), (69, .invokestatic 36, 3), (72, .iload 4, 2), (74, .iadd, 1), (75, .iaload, 1), (76, .i2l, 1), (77, .ladd, 1)] (cX11_digest.data.toList.drop 53) 53 = true := by decide +kernel
def dc_cX11_digest_dX11_digest_53_2 := zw_16 db_cX11_digest_dX11_digest_53_2
def dX11_digest_53 := dc_cX11_digest_dX11_digest_53_2.1
def dX11_digest_54 := dc_cX11_digest_dX11_digest_53_2.2.1
def dX11_digest_57 := dc_cX11_digest_dX11_digest_53_2.2.2.1
def dX11_digest_58 := dc_cX11_digest_dX11_digest_53_2.2.2.2.1
def dX11_digest_61 := dc_cX11_digest_dX11_digest_53_2.2.2.2.2.1
def dX11_digest_62 := dc_cX11_digest_dX11_digest_53_2.2.2.2.2.2.1
def dX11_digest_63 := dc_cX11_digest_dX11_digest_53_2.2.2.2.2.2.2.1
def dX11_digest_66 := dc_cX11_digest_dX11_digest_53_2.2.2.2.2.2.2.2.1
def dX11_digest_67 := dc_cX11_digest_dX11_digest_53_2.2.2.2.2.2.2.2.2.1
def dX11_digest_68 := dc_cX11_digest_dX11_digest_53_2.2.2.2.2.2.2.2.2.2.1
def dX11_digest_69 := dc_cX11_digest_dX11_digest_53_2.2.2.2.2.2.2.2.2.2.2.1
def dX11_digest_72 := dc_cX11_digest_dX11_digest_53_2.2.2.2.2.2.2.2.2.2.2.2.1
def dX11_digest_74 := dc_cX11_digest_dX11_digest_53_2.2.2.2.2.2.2.2.2.2.2.2.2.1
def dX11_digest_75 := dc_cX11_digest_dX11_digest_53_2.2.2.2.2.2.2.2.2.2.2.2.2.2.1
def dX11_digest_76 := dc_cX11_digest_dX11_digest_53_2.2.2.2.2.2.2.2.2.2.2.2.2.2.2.1
def dX11_digest_77 := dc_cX11_digest_dX11_digest_53_2.2.2.2.2.2.2.2.2.2.2.2.2.2.2.2
set_option maxRecDepth 100000 in
theorem db_cX11_digest_dX11_digest_78_3 : zw [(78, .lstore_n 1, 1), (79, .iinc 4 1, 3), (82, .goto (-38), 3), (85, .iinc 3 1, 3), (88, .goto (-82), 3), (91, .aload_n 0, 1), (92, .iconst 0, 1), (93, .putfield 22, 3), (96, .lload_n 1, 1), (97, .ldc2_w 206, 3), (100, .lmul, 1), (101, .aload_n 0, 1), (102, .getfield 30, 3), (105, .i2l, 1), (106, .ladd, 1), (107, .ldc2_w 206, 3)] (cX11_digest.data.toList.drop 78) 78 = true := by decide +kernel
def dc_cX11_digest_dX11_digest_78_3 := zw_16 db_cX11_digest_dX11_digest_78_3
def dX11_digest_78 := dc_cX11_digest_dX11_digest_78_3.1
def dX11_digest_79 := dc_cX11_digest_dX11_digest_78_3.2.1
def dX11_digest_82 := dc_cX11_digest_dX11_digest_78_3.2.2.1
def dX11_digest_85 := dc_cX11_digest_dX11_digest_78_3.2.2.2.1
def dX11_digest_88 := dc_cX11_digest_dX11_digest_78_3.2.2.2.2.1
def dX11_digest_91 := dc_cX11_digest_dX11_digest_78_3.2.2.2.2.2.1
def dX11_digest_92 := dc_cX11_digest_dX11_digest_78_3.2.2.2.2.2.2.1
def dX11_digest_93 := dc_cX11_digest_dX11_digest_78_3.2.2.2.2.2.2.2.1
def dX11_digest_96 := dc_cX11_digest_dX11_digest_78_3.2.2.2.2.2.2.2.2.1
def dX11_digest_97 := dc_cX11_digest_dX11_digest_78_3.2.2.2.2.2.2.2.2.2.1
def dX11_digest_100 := dc_cX11_digest_dX11_digest_78_3.2.2.2.2.2.2.2.2.2.2.1
def dX11_digest_101 := dc_cX11_digest_dX11_digest_78_3.2.2.2.2.2.2.2.2.2.2.2.1
def dX11_digest_102 := dc_cX11_digest_dX11_digest_78_3.2.2.2.2.2.2.2.2.2.2.2.2.1
def dX11_digest_105 := dc_cX11_digest_dX11_digest_78_3.2.2.2.2.2.2.2.2.2.2.2.2.2.1
def dX11_digest_106 := dc_cX11_digest_dX11_digest_78_3.2.2.2.2.2.2.2.2.2.2.2.2.2.2.1
def dX11_digest_107 := dc_cX11_digest_dX11_digest_78_3.2.2.2.2.2.2.2.2.2.2.2.2.2.2.2
set_option maxRecDepth 100000 in
theorem db_cX11_digest_dX11_digest_110_4 : zw [(110, .lmul, 1), (111, .aload_n 0, 1), (112, .getfield 33, 3), (115, .i2l, 1), (116, .ladd, 1), (117, .ldc2_w 206, 3), (120, .lmul, 1), (121, .aload_n 0, 1), (122, .getfield 201, 3), (125, .i2l, 1), (126, .ladd, 1), (127, .lstore_n 1, 1), (128, .lload_n 1, 1), (129, .ldc2_w 206, 3), (132, .lmul, 1), (133, .lconst 1, 1)] (cX11_digest.data.toList.drop 110) 110 = true := by decide +kernel
def dc_cX11_digest_dX11_digest_110_4 := zw_16 db_cX11_digest_dX11_digest_110_4
def dX11_digest_110 := dc_cX11_digest_dX11_digest_110_4.1
def dX11_digest_111 := dc_cX11_digest_dX11_digest_110_4.2.1
def dX11_digest_112 := dc_cX11_digest_dX11_digest_110_4.2.2.1
def dX11_digest_115 := dc_cX11_digest_dX11_digest_110_4.2.2.2.1
def dX11_digest_116 := dc_cX11_digest_dX11_digest_110_4.2.2.2.2.1
def dX11_digest_117 := dc_cX11_digest_dX11_digest_110_4.2.2.2.2.2.1
def dX11_digest_120 := dc_cX11_digest_dX11_digest_110_4.2.2.2.2.2.2.1
def dX11_digest_121 := dc_cX11_digest_dX11_digest_110_4.2.2.2.2.2.2.2.1
def dX11_digest_122 := dc_cX11_digest_dX11_digest_110_4.2.2.2.2.2.2.2.2.1
def dX11_digest_125 := dc_cX11_digest_dX11_digest_110_4.2.2.2.2.2.2.2.2.2.1
def dX11_digest_126 := dc_cX11_digest_dX11_digest_110_4.2.2.2.2.2.2.2.2.2.2.1
def dX11_digest_127 := dc_cX11_digest_dX11_digest_110_4.2.2.2.2.2.2.2.2.2.2.2.1
def dX11_digest_128 := dc_cX11_digest_dX11_digest_110_4.2.2.2.2.2.2.2.2.2.2.2.2.1
def dX11_digest_129 := dc_cX11_digest_dX11_digest_110_4.2.2.2.2.2.2.2.2.2.2.2.2.2.1
def dX11_digest_132 := dc_cX11_digest_dX11_digest_110_4.2.2.2.2.2.2.2.2.2.2.2.2.2.2.1
def dX11_digest_133 := dc_cX11_digest_dX11_digest_110_4.2.2.2.2.2.2.2.2.2.2.2.2.2.2.2
set_option maxRecDepth 100000 in
theorem db_cX11_digest_dX11_digest_134_5 : zw [(134, .ladd, 1), (135, .lreturn, 1)] (cX11_digest.data.toList.drop 134) 134 = true := by decide +kernel
def dc_cX11_digest_dX11_digest_134_5 := zw_2 db_cX11_digest_dX11_digest_134_5
def dX11_digest_134 := dc_cX11_digest_dX11_digest_134_5.1
def dX11_digest_135 := dc_cX11_digest_dX11_digest_134_5.2
theorem hd_78 : (yX11_isIn : MethodName).cls ≠ "java/lang/invoke/MethodHandle" ∧ (yX11_isIn : MethodName).cls ≠ "java/lang/invoke/VarHandle" ∧ (parseMethodDescriptor (yX11_isIn : MethodName).desc).map (fun d => d.parameters.length) = some 3 := by decide +kernel
theorem hd_79 : (yX11_key : MethodName).cls ≠ "java/lang/invoke/MethodHandle" ∧ (yX11_key : MethodName).cls ≠ "java/lang/invoke/VarHandle" ∧ (parseMethodDescriptor (yX11_key : MethodName).desc).map (fun d => d.parameters.length) = some 3 := by decide +kernel
theorem hd_80 : (yX11_next : MethodName).cls ≠ "java/lang/invoke/MethodHandle" ∧ (yX11_next : MethodName).cls ≠ "java/lang/invoke/VarHandle" ∧ (parseMethodDescriptor (yX11_next : MethodName).desc).map (fun d => d.parameters.length) = some 5 := by decide +kernel
theorem hd_81 : (yX11_part : MethodName).cls ≠ "java/lang/invoke/MethodHandle" ∧ (yX11_part : MethodName).cls ≠ "java/lang/invoke/VarHandle" ∧ (parseMethodDescriptor (yX11_part : MethodName).desc).map (fun d => d.parameters.length) = some 2 := by decide +kernel
theorem hd_82 : (yX11_arrowsAll : MethodName).cls ≠ "java/lang/invoke/MethodHandle" ∧ (yX11_arrowsAll : MethodName).cls ≠ "java/lang/invoke/VarHandle" ∧ (parseMethodDescriptor (yX11_arrowsAll : MethodName).desc).map (fun d => d.parameters.length) = some 1 := by decide +kernel
theorem hd_83 : (yX11_oneWay : MethodName).cls ≠ "java/lang/invoke/MethodHandle" ∧ (yX11_oneWay : MethodName).cls ≠ "java/lang/invoke/VarHandle" ∧ (parseMethodDescriptor (yX11_oneWay : MethodName).desc).map (fun d => d.parameters.length) = some 5 := by decide +kernel
theorem hd_84 : (yX11_isLike : MethodName).cls ≠ "java/lang/invoke/MethodHandle" ∧ (yX11_isLike : MethodName).cls ≠ "java/lang/invoke/VarHandle" ∧ (parseMethodDescriptor (yX11_isLike : MethodName).desc).map (fun d => d.parameters.length) = some 4 := by decide +kernel
theorem hd_85 : (yX11_alike : MethodName).cls ≠ "java/lang/invoke/MethodHandle" ∧ (yX11_alike : MethodName).cls ≠ "java/lang/invoke/VarHandle" ∧ (parseMethodDescriptor (yX11_alike : MethodName).desc).map (fun d => d.parameters.length) = some 1 := by decide +kernel
theorem hd_86 : (yX11_oneWay_ : MethodName).cls ≠ "java/lang/invoke/MethodHandle" ∧ (yX11_oneWay_ : MethodName).cls ≠ "java/lang/invoke/VarHandle" ∧ (parseMethodDescriptor (yX11_oneWay_ : MethodName).desc).map (fun d => d.parameters.length) = some 1 := by decide +kernel
theorem hd_87 : (yX11_least : MethodName).cls ≠ "java/lang/invoke/MethodHandle" ∧ (yX11_least : MethodName).cls ≠ "java/lang/invoke/VarHandle" ∧ (parseMethodDescriptor (yX11_least : MethodName).desc).map (fun d => d.parameters.length) = some 1 := by decide +kernel
theorem hd_88 : (yX11_turnedTwice : MethodName).cls ≠ "java/lang/invoke/MethodHandle" ∧ (yX11_turnedTwice : MethodName).cls ≠ "java/lang/invoke/VarHandle" ∧ (parseMethodDescriptor (yX11_turnedTwice : MethodName).desc).map (fun d => d.parameters.length) = some 1 := by decide +kernel
theorem hd_89 : (yX11_isUnlike : MethodName).cls ≠ "java/lang/invoke/MethodHandle" ∧ (yX11_isUnlike : MethodName).cls ≠ "java/lang/invoke/VarHandle" ∧ (parseMethodDescriptor (yX11_isUnlike : MethodName).desc).map (fun d => d.parameters.length) = some 3 := by decide +kernel
theorem hd_90 : (yX11_met : MethodName).cls ≠ "java/lang/invoke/MethodHandle" ∧ (yX11_met : MethodName).cls ≠ "java/lang/invoke/VarHandle" ∧ (parseMethodDescriptor (yX11_met : MethodName).desc).map (fun d => d.parameters.length) = some 4 := by decide +kernel
theorem hd_91 : (yX11_isOne : MethodName).cls ≠ "java/lang/invoke/MethodHandle" ∧ (yX11_isOne : MethodName).cls ≠ "java/lang/invoke/VarHandle" ∧ (parseMethodDescriptor (yX11_isOne : MethodName).desc).map (fun d => d.parameters.length) = some 1 := by decide +kernel
theorem hd_92 : (yX11_isThrown : MethodName).cls ≠ "java/lang/invoke/MethodHandle" ∧ (yX11_isThrown : MethodName).cls ≠ "java/lang/invoke/VarHandle" ∧ (parseMethodDescriptor (yX11_isThrown : MethodName).desc).map (fun d => d.parameters.length) = some 2 := by decide +kernel
theorem hd_93 : (yX11_arrowsOf : MethodName).cls ≠ "java/lang/invoke/MethodHandle" ∧ (yX11_arrowsOf : MethodName).cls ≠ "java/lang/invoke/VarHandle" ∧ (parseMethodDescriptor (yX11_arrowsOf : MethodName).desc).map (fun d => d.parameters.length) = some 1 := by decide +kernel
theorem hd_94 : (yX11_clear : MethodName).cls ≠ "java/lang/invoke/MethodHandle" ∧ (yX11_clear : MethodName).cls ≠ "java/lang/invoke/VarHandle" ∧ (parseMethodDescriptor (yX11_clear : MethodName).desc).map (fun d => d.parameters.length) = some 2 := by decide +kernel
theorem hd_95 : (yX11_did : MethodName).cls ≠ "java/lang/invoke/MethodHandle" ∧ (yX11_did : MethodName).cls ≠ "java/lang/invoke/VarHandle" ∧ (parseMethodDescriptor (yX11_did : MethodName).desc).map (fun d => d.parameters.length) = some 1 := by decide +kernel
theorem hd_96 : (yX11_isState : MethodName).cls ≠ "java/lang/invoke/MethodHandle" ∧ (yX11_isState : MethodName).cls ≠ "java/lang/invoke/VarHandle" ∧ (parseMethodDescriptor (yX11_isState : MethodName).desc).map (fun d => d.parameters.length) = some 2 := by decide +kernel
theorem hd_97 : (yX11_isNoArrow : MethodName).cls ≠ "java/lang/invoke/MethodHandle" ∧ (yX11_isNoArrow : MethodName).cls ≠ "java/lang/invoke/VarHandle" ∧ (parseMethodDescriptor (yX11_isNoArrow : MethodName).desc).map (fun d => d.parameters.length) = some 4 := by decide +kernel
theorem hd_98 : (yX11_isSame : MethodName).cls ≠ "java/lang/invoke/MethodHandle" ∧ (yX11_isSame : MethodName).cls ≠ "java/lang/invoke/VarHandle" ∧ (parseMethodDescriptor (yX11_isSame : MethodName).desc).map (fun d => d.parameters.length) = some 2 := by decide +kernel
theorem hd_99 : (yX11_exchange : MethodName).cls ≠ "java/lang/invoke/MethodHandle" ∧ (yX11_exchange : MethodName).cls ≠ "java/lang/invoke/VarHandle" ∧ (parseMethodDescriptor (yX11_exchange : MethodName).desc).map (fun d => d.parameters.length) = some 3 := by decide +kernel
theorem hd_100 : (yX11_isPlain : MethodName).cls ≠ "java/lang/invoke/MethodHandle" ∧ (yX11_isPlain : MethodName).cls ≠ "java/lang/invoke/VarHandle" ∧ (parseMethodDescriptor (yX11_isPlain : MethodName).desc).map (fun d => d.parameters.length) = some 1 := by decide +kernel
theorem hd_101 : (yX11_refuse : MethodName).cls ≠ "java/lang/invoke/MethodHandle" ∧ (yX11_refuse : MethodName).cls ≠ "java/lang/invoke/VarHandle" ∧ (parseMethodDescriptor (yX11_refuse : MethodName).desc).map (fun d => d.parameters.length) = some 0 := by decide +kernel
theorem hd_102 : (yX11_without : MethodName).cls ≠ "java/lang/invoke/MethodHandle" ∧ (yX11_without : MethodName).cls ≠ "java/lang/invoke/VarHandle" ∧ (parseMethodDescriptor (yX11_without : MethodName).desc).map (fun d => d.parameters.length) = some 2 := by decide +kernel
theorem hd_103 : (yX11_found : MethodName).cls ≠ "java/lang/invoke/MethodHandle" ∧ (yX11_found : MethodName).cls ≠ "java/lang/invoke/VarHandle" ∧ (parseMethodDescriptor (yX11_found : MethodName).desc).map (fun d => d.parameters.length) = some 2 := by decide +kernel
theorem hd_104 : (yX11_become : MethodName).cls ≠ "java/lang/invoke/MethodHandle" ∧ (yX11_become : MethodName).cls ≠ "java/lang/invoke/VarHandle" ∧ (parseMethodDescriptor (yX11_become : MethodName).desc).map (fun d => d.parameters.length) = some 2 := by decide +kernel
theorem hd_105 : (yX11_both : MethodName).cls ≠ "java/lang/invoke/MethodHandle" ∧ (yX11_both : MethodName).cls ≠ "java/lang/invoke/VarHandle" ∧ (parseMethodDescriptor (yX11_both : MethodName).desc).map (fun d => d.parameters.length) = some 3 := by decide +kernel
theorem hd_106 : (yX11_power : MethodName).cls ≠ "java/lang/invoke/MethodHandle" ∧ (yX11_power : MethodName).cls ≠ "java/lang/invoke/VarHandle" ∧ (parseMethodDescriptor (yX11_power : MethodName).desc).map (fun d => d.parameters.length) = some 1 := by decide +kernel
theorem hd_107 : (yX11_isWord : MethodName).cls ≠ "java/lang/invoke/MethodHandle" ∧ (yX11_isWord : MethodName).cls ≠ "java/lang/invoke/VarHandle" ∧ (parseMethodDescriptor (yX11_isWord : MethodName).desc).map (fun d => d.parameters.length) = some 2 := by decide +kernel
theorem hd_108 : (yX11_setAfter : MethodName).cls ≠ "java/lang/invoke/MethodHandle" ∧ (yX11_setAfter : MethodName).cls ≠ "java/lang/invoke/VarHandle" ∧ (parseMethodDescriptor (yX11_setAfter : MethodName).desc).map (fun d => d.parameters.length) = some 3 := by decide +kernel
theorem hd_109 : (yX11_isCrowded : MethodName).cls ≠ "java/lang/invoke/MethodHandle" ∧ (yX11_isCrowded : MethodName).cls ≠ "java/lang/invoke/VarHandle" ∧ (parseMethodDescriptor (yX11_isCrowded : MethodName).desc).map (fun d => d.parameters.length) = some 2 := by decide +kernel
theorem hd_110 : (yX11_isReached : MethodName).cls ≠ "java/lang/invoke/MethodHandle" ∧ (yX11_isReached : MethodName).cls ≠ "java/lang/invoke/VarHandle" ∧ (parseMethodDescriptor (yX11_isReached : MethodName).desc).map (fun d => d.parameters.length) = some 2 := by decide +kernel
theorem hd_111 : (yX11_ways : MethodName).cls ≠ "java/lang/invoke/MethodHandle" ∧ (yX11_ways : MethodName).cls ≠ "java/lang/invoke/VarHandle" ∧ (parseMethodDescriptor (yX11_ways : MethodName).desc).map (fun d => d.parameters.length) = some 2 := by decide +kernel
theorem hd_112 : (yX11_pairsOf : MethodName).cls ≠ "java/lang/invoke/MethodHandle" ∧ (yX11_pairsOf : MethodName).cls ≠ "java/lang/invoke/VarHandle" ∧ (parseMethodDescriptor (yX11_pairsOf : MethodName).desc).map (fun d => d.parameters.length) = some 2 := by decide +kernel
theorem hd_113 : (yX11_isApart : MethodName).cls ≠ "java/lang/invoke/MethodHandle" ∧ (yX11_isApart : MethodName).cls ≠ "java/lang/invoke/VarHandle" ∧ (parseMethodDescriptor (yX11_isApart : MethodName).desc).map (fun d => d.parameters.length) = some 3 := by decide +kernel
theorem hd_114 : (yX11_tell : MethodName).cls ≠ "java/lang/invoke/MethodHandle" ∧ (yX11_tell : MethodName).cls ≠ "java/lang/invoke/VarHandle" ∧ (parseMethodDescriptor (yX11_tell : MethodName).desc).map (fun d => d.parameters.length) = some 2 := by decide +kernel
end
