/-! part 60.mlib -/
section
section MLB
def mll : List Nat := [0, 4, 4, 4, 84]
def ml (k : Nat) : Nat := mll.getD k 0
def ment (ad : Nat → Nat) (cI : ClassId) (f : Nat → Int32) (k : Nat) : va_E := match k with
  | 0 => .inr (10, [.ref (ad 1), .ref (ad 2), .ref (ad 3), .ref (ad 4), .int (f 4), .int (f 5), .int (f 6), .int (f 7)])
  | j + 1 => .inl (cI, ml (j + 1), .inl f)
theorem ment_a {ad : Nat → Nat} {cI : ClassId} {f : Nat → Int32} {k : Nat} (h : 1 ≤ k) : ment ad cI f k = .inl (cI, ml k, .inl f) := by
  cases k with
  | zero => omega
  | succ j => rfl
def MR (ad : Nat → Nat) (cI : ClassId) (μ : TMem) : va_W := (List.range 5).map fun k => (ad k, ment ad cI (μ k) k)
theorem MR_len {ad : Nat → Nat} {cI : ClassId} {μ : TMem} : (MR ad cI μ).length = 5 := by simp [MR]
theorem MR_at {ad : Nat → Nat} {cI : ClassId} {μ : TMem} {k : Nat} (hk : k < 5) : (MR ad cI μ)[k]? = some (ad k, ment ad cI (μ k) k) := by
  simp [MR, List.getElem?_map, List.getElem?_range hk]
theorem MR_of {ad : Nat → Nat} {cI : ClassId} {μ : TMem} {k : Nat} {x : Nat × va_E} (h : (MR ad cI μ)[k]? = some x) : k < 5 ∧ x = (ad k, ment ad cI (μ k) k) := by
  rcases Nat.lt_or_ge k 5 with q | q
  · rw [MR_at q] at h
    exact ⟨q, (Option.some.inj h).symm⟩
  · rw [List.getElem?_eq_none (by rw [MR_len]; exact q)] at h
    cases h
theorem MR_set {ad : Nat → Nat} {cI : ClassId} {μ : TMem} {k i : Nat} {v : Int32} (hk : k < 5) : (MR ad cI μ).set k (ad k, ment ad cI (upd (μ k) i v) k) = MR ad cI (tms μ k i v) := by
  apply List.ext_getElem?
  intro j
  by_cases hj : j < 5
  · by_cases e : k = j
    · subst e
      rw [MR_at hk, List.getElem?_set_self (by rw [MR_len]; exact hk)]
      simp [tms]
    · rw [List.getElem?_set_ne e, MR_at hj, MR_at hj]
      simp [tms, Ne.symm e]
  · rw [List.getElem?_eq_none (by simp [MR]; omega), List.getElem?_eq_none (by rw [MR_len]; omega)]
def MK (D : va_G) (cI cL : ClassId) (U : State) : Prop := va_K D CL [(cI, .int), (cL, .long)] U
def MW (D : va_G) (RG N : va_W) (A : Nat → Prop) (s : State) (H : Heap) (locs : List Loc) : Prop := va_P D CL (RG ++ N) H ∧ va_D A (RG ++ N) ∧ va_S A s.heap H locs ∧ ∀ q, s.heap.size ≤ q → A q
def MA (ad : Nat → Nat) (sz : Nat) : Nat → Prop := fun q => (∃ k : Nat, k < 5 ∧ q = ad k) ∨ sz ≤ q
def SA (sz : Nat) : Nat → Prop := fun q => sz ≤ q
abbrev eI (cI : ClassId) (a n : Nat) (f : Nat → Int32) : Nat × va_E := (a, .inl (cI, n, .inl f))
abbrev eL (cL : ClassId) (a n : Nat) (f : Nat → Int64) : Nat × va_E := (a, .inl (cL, n, .inr (.inl f)))
abbrev RA (h c n : Nat) : Room := { frames := h, cells := c, slots := n, locals := 40 * h }
variable {p : Program} {l : Launch} {e : Env} {R : Room} {s : State} {m : MethodId} {args : Array Value} {below : List Frame} {meth : Method} {c : Code} {H : Heap} {locs : List Loc} {cells slots : Nat} {Q : State → Prop}
variable {cc : ByteArray} {pc : Nat} {ls : Array Slot} {rest : List Value} {D : va_G} {ad : Nat → Nat} {cI cL : ClassId} {μ : TMem} {k : Nat} {RG N : va_W} {A : Nat → Prop}
theorem MRN (hk : k < 5) : (MR ad cI μ ++ N)[k]? = some (ad k, ment ad cI (μ k) k) := by
  rw [List.getElem?_append_left (by rw [MR_len]; exact hk), MR_at hk]
theorem NAT {j : Nat} {x : Nat × va_E} (h : N[j]? = some x) : (RG ++ N)[RG.length + j]? = some x := by
  rw [List.getElem?_append_right (by omega), show RG.length + j - RG.length = j by omega]
  exact h
theorem va_P1 {x : Nat × va_E} (h : va_at D CL x H) : va_P D CL [x] H := fun k q hq => by
  cases k with
  | zero => cases hq; exact h
  | succ j => simp at hq
theorem va_Pc2 {x : Nat × va_E} {L : va_W} (h : va_at D CL x H) (hL : va_P D CL L H) : va_P D CL (x :: L) H := fun k q hq => by
  cases k with
  | zero => cases hq; exact h
  | succ j => exact hL j q hq
theorem va_P0 : va_P D CL [] H := fun k q hq => by simp at hq
theorem va_Ph {x : Nat × va_E} {L : va_W} (h : va_P D CL (x :: L) H) : va_at D CL x H := h 0 x rfl
theorem va_Pt {x : Nat × va_E} {L : va_W} (h : va_P D CL (x :: L) H) : va_P D CL L H := fun k q hq => h (k + 1) q hq
theorem set_r {L : va_W} {j : Nat} {x : Nat × va_E} : (RG ++ L).set (RG.length + j) x = RG ++ L.set j x := by
  rw [List.set_append_right (RG.length + j) x (by omega), show RG.length + j - RG.length = j by omega]
theorem set_l {j : Nat} {x : Nat × va_E} (h : j < RG.length) : (RG ++ N).set j x = RG.set j x ++ N := List.set_append_left j x h
theorem MW.n (hw : MW D RG N A s H locs) {j : Nat} {x : Nat × va_E} (h : N[j]? = some x) : va_at D CL x H := hw.1 _ _ (NAT h)
theorem MW.arg (hw : MW D RG N A s H locs) {x : Nat × va_E} (h : va_at D CL x s.heap) (hn : ¬ A x.1) : va_at D CL x H := h.kept (hw.2.2.1.2.1 _ h.lt hn)
theorem MW.sub (hw : MW D RG N A s H locs) {N' : va_W} (is : List Nat) (hn : va_nd is = true) (hs : is.map (fun i => N[i]?) = N'.map some) : MW D RG N' A s H locs := by
  have g : ∀ (j : Nat) (q : Nat × va_E), N'[j]? = some q → ∃ i, is[j]? = some i ∧ N[i]? = some q := by
    intro j q hq
    have h1 : (is.map (fun i => N[i]?))[j]? = some (some q) := by rw [hs, List.getElem?_map, hq]; rfl
    rw [List.getElem?_map] at h1
    cases hi : is[j]? with
    | none => rw [hi] at h1; cases h1
    | some i => rw [hi] at h1; exact ⟨i, rfl, Option.some.inj h1⟩
  have hR : va_D A RG := ⟨fun i j x y hx hy e => hw.2.1.1 i j x y (by rw [List.getElem?_append_left (List.getElem?_eq_some_iff.mp hx).1]; exact hx) (by rw [List.getElem?_append_left (List.getElem?_eq_some_iff.mp hy).1]; exact hy) e, fun k q hk => hw.2.1.2 k q (by rw [List.getElem?_append_left (List.getElem?_eq_some_iff.mp hk).1]; exact hk)⟩
  have hN : va_D A N := ⟨fun i j x y hx hy e => by
    have := hw.2.1.1 _ _ x y (NAT (RG := RG) hx) (NAT (RG := RG) hy) e
    omega, fun k q hk => hw.2.1.2 _ q (NAT hk)⟩
  refine ⟨va_P.app (fun k q hk => hw.1 k q (by rw [List.getElem?_append_left (List.getElem?_eq_some_iff.mp hk).1]; exact hk)) (fun k q hk => ?_), va_D.app hR (hN.sub is hn hs) (fun i j x y hx hy e => ?_), hw.2.2⟩
  · obtain ⟨i, -, h2⟩ := g k q hk
    exact hw.1 _ _ (NAT h2)
  · obtain ⟨i2, -, h2⟩ := g j y hy
    have hl := (List.getElem?_eq_some_iff.mp hx).1
    have := hw.2.1.1 i (RG.length + i2) x y (by rw [List.getElem?_append_left hl]; exact hx) (NAT h2) e
    omega
theorem MW.push (hw : MW D RG N A s H locs) {x : Nat × va_E} {H0 : Heap} (h : va_at D CL x H) (hf : H0.size ≤ x.1) (h0 : ∀ (k : Nat) (q : Nat × va_E), (RG ++ N)[k]? = some q → q.1 < H0.size) (hs : s.heap.size ≤ H0.size) : MW D RG (N ++ [x]) A s H locs := by
  refine ⟨?_, ?_, hw.2.2⟩
  · rw [← List.append_assoc]
    exact hw.1.app (va_P1 h)
  · rw [← List.append_assoc]
    refine va_D.app hw.2.1 ⟨fun i j p q hp hq _ => ?_, fun k q hk => ?_⟩ (fun i j p q hp hq e => ?_)
    · have := (List.getElem?_eq_some_iff.mp hp).1
      have := (List.getElem?_eq_some_iff.mp hq).1
      simp at *
      omega
    · have h1 := (List.getElem?_eq_some_iff.mp hk).1
      have h2 : k = 0 := by simp at h1; omega
      subst h2
      cases hk
      exact hw.2.2.2 _ (by omega)
    · have h1 := (List.getElem?_eq_some_iff.mp hq).1
      have h2 : j = 0 := by simp at h1; omega
      subst h2
      cases hq
      have := h0 i p hp
      omega
theorem MW.lt (hw : MW D RG N A s H locs) : ∀ (k : Nat) (q : Nat × va_E), (RG ++ N)[k]? = some q → q.1 < H.size := fun k q h => (hw.1 k q h).lt
/-- behind a call that changes nothing old -/
theorem MW.keepS (hw : MW D RG N A s H locs) {H1 : Heap} {locs1 : List Loc} (hk : ∀ q : Nat, q < H.size → ¬ SA H.size q → H1[q]? = H[q]?) (hS : va_S A s.heap H1 locs1) : MW D RG N A s H1 locs1 :=
  ⟨hw.1.kept (fun k q h => hk q.1 (hw.lt k q h) (fun z => absurd (hw.lt k q h) (Nat.not_lt.mpr z))), hw.2.1, hS, hw.2.2.2⟩
/-- behind a call that changes the region -/
theorem MW.keepM (hw : MW D (MR ad cI μ) N A s H locs) {μ1 : TMem} {H1 : Heap} {locs1 : List Loc} (hk : ∀ q : Nat, q < H.size → ¬ MA ad H.size q → H1[q]? = H[q]?) (hP : va_P D CL (MR ad cI μ1) H1) (hS : va_S A s.heap H1 locs1) : MW D (MR ad cI μ1) N A s H1 locs1 := by
  refine ⟨hP.app (fun k q h => (hw.1 _ _ (NAT h)).kept (hk q.1 (hw.lt _ _ (NAT h)) (fun z => ?_))), ⟨fun i j x y hx hy e => ?_, fun k q h => ?_⟩, hS, hw.2.2.2⟩
  · rcases z with ⟨i, hi, e⟩ | z
    · have := hw.2.1.1 (5 + k) i q (ad i, ment ad cI (μ i) i) (by have := NAT (RG := MR ad cI μ) h; rw [MR_len] at this; exact this) (MRN hi) e
      omega
    · exact absurd (hw.lt _ _ (NAT h)) (Nat.not_lt.mpr z)
  · have tr : ∀ (i : Nat) (x : Nat × va_E), (MR ad cI μ1 ++ N)[i]? = some x → ∃ x' : Nat × va_E, (MR ad cI μ ++ N)[i]? = some x' ∧ x'.1 = x.1 := by
      intro i x hx
      by_cases hi : i < 5
      · rw [MRN hi] at hx
        cases hx
        exact ⟨_, MRN hi, rfl⟩
      · rw [List.getElem?_append_right (by rw [MR_len]; omega), MR_len] at hx
        exact ⟨x, by rw [List.getElem?_append_right (by rw [MR_len]; omega), MR_len]; exact hx, rfl⟩
    obtain ⟨x', h1, e1⟩ := tr i x hx
    obtain ⟨y', h2, e2⟩ := tr j y hy
    exact hw.2.1.1 i j x' y' h1 h2 (by rw [e1, e2]; exact e)
  · by_cases hi : k < 5
    · rw [MRN hi] at h
      cases h
      have h9 := hw.2.1.2 k (ad k, ment ad cI (μ k) k) (MRN hi)
      exact h9
    · rw [List.getElem?_append_right (by rw [MR_len]; omega), MR_len] at h
      exact hw.2.1.2 k q (by rw [List.getElem?_append_right (by rw [MR_len]; omega), MR_len]; exact h)
theorem MA.up {sz1 sz2 : Nat} (h : sz1 ≤ sz2) : ∀ q, MA ad sz2 q → MA ad sz1 q := fun q h9 => h9.elim Or.inl (fun z => Or.inr (Nat.le_trans h z))
theorem m_get (hx : p.tables.exec = Jvm.exec) (hb : c.code = cc) (ht : ∀ w ∈ W0, w.before args s = true) {index i : Nat} (hown : s.vm.findClass "LeastreaderModel" = some m.cls) (hK : MK D cI cL s) (hw : MW D (MR ad cI μ) N A s H locs) (hi : i < 8) (hlink : (Cond.fieldLink "LeastreaderModel" index "LeastreaderModel" (TX11 i).2.1 (TX11 i).2.2.1).before args s = true) (hd : (TX11 i).1 = "LeastreaderModel") {v : Value} (hv : ([.ref (ad 1), .ref (ad 2), .ref (ad 3), .ref (ad 4), .int (μ 0 4), .int (μ 0 5), .int (μ 0 6), .int (μ 0 7)] : List Value)[i]? = some v) (hdg : decode cc pc = .ok (.getfield index, 3))
    (kk : W p l e R s m args below meth c H locs cells slots Q (F0 m (pc + 3) ls (v :: rest))) : W p l e R s m args below meth c H locs cells slots Q (F0 m pc ls (.ref (ad 0) :: rest)) :=
  va_get hx hb ht in_10 hown hK hw.1 0 (MRN (by decide)) cl_10 i hi hlink (fun x h => by rw [hd] at h; exact h) hv hdg kk
theorem m_put (hx : p.tables.exec = Jvm.exec) (hb : c.code = cc) (ht : ∀ w ∈ W0, w.before args s = true) {index i : Nat} (hown : s.vm.findClass "LeastreaderModel" = some m.cls) (hK : MK D cI cL s) (hw : MW D (MR ad cI μ) N A s H locs) (hi : i < 8) (hi4 : 4 ≤ i) (hlink : (Cond.fieldLink "LeastreaderModel" index "LeastreaderModel" (TX11 i).2.1 (TX11 i).2.2.1).before args s = true) (hd : (TX11 i).1 = "LeastreaderModel") (hfin : (TX11 i).2.2.2 = false) {v : Int32} (hde : parseFieldDescriptor (TX11 i).2.2.1 = some .int) (hdg : decode cc pc = .ok (.putfield index, 3))
    (kk : ∀ (H1 : Heap) (locs1 : List Loc), MW D (MR ad cI (tms μ 0 i v)) N A s H1 locs1 → W p l e R s m args below meth c H1 locs1 cells slots Q (F0 m (pc + 3) ls rest)) : W p l e R s m args below meth c H locs cells slots Q (F0 m pc ls (.int v :: .ref (ad 0) :: rest)) := by
  have he : ment ad cI (upd (μ 0) i v) 0 = .inr (10, ([.ref (ad 1), .ref (ad 2), .ref (ad 3), .ref (ad 4), .int (μ 0 4), .int (μ 0 5), .int (μ 0 6), .int (μ 0 7)] : List Value).set i (.int v)) := by
    rcases (show i = 4 ∨ i = 5 ∨ i = 6 ∨ i = 7 by omega) with rfl | rfl | rfl | rfl <;> rfl
  refine va_put hx hb ht in_10 tyX11 tyX11_ok nmX11 hown hK hw.1 hw.2.1 hw.2.2.1 0 (MRN (by decide)) cl_10 i hi hlink (fun x h => by rw [hd] at h; exact h) hfin hde rfl rfl hi hdg (fun H1 locs1 hP hD hS => ?_)
  rw [← he, set_l (by rw [MR_len]; decide), MR_set (by decide)] at hP hD
  exact kk H1 locs1 ⟨hP, hD, hS, hw.2.2.2⟩
theorem m_iald (hx : p.tables.exec = Jvm.exec) (hb : c.code = cc) (hK : MK D cI cL s) (hw : MW D (MR ad cI μ) N A s H locs) (hk : 1 ≤ k ∧ k < 5) {i : Int32} (hin : vp_in i (ml k)) (hdg : decode cc pc = .ok (.iaload, 1))
    (kk : W p l e R s m args below meth c H locs cells slots Q (F0 m (pc + 1) ls (.int (μ k i.toNatClampNeg) :: rest))) : W p l e R s m args below meth c H locs cells slots Q (F0 m pc ls (.int i :: .ref (ad k) :: rest)) :=
  va_iald hx hb hK hw.1 k 0 (by rw [MRN hk.2, ment_a hk.1]) rfl hin hdg kk
theorem m_iast (hx : p.tables.exec = Jvm.exec) (hb : c.code = cc) (hK : MK D cI cL s) (hw : MW D (MR ad cI μ) N A s H locs) (hk : 1 ≤ k ∧ k < 5) {i x : Int32} (hin : vp_in i (ml k)) (hdg : decode cc pc = .ok (.iastore, 1))
    (kk : ∀ (H1 : Heap) (locs1 : List Loc), MW D (MR ad cI (tms μ k i.toNatClampNeg x)) N A s H1 locs1 → W p l e R s m args below meth c H1 locs1 cells slots Q (F0 m (pc + 1) ls rest)) : W p l e R s m args below meth c H locs cells slots Q (F0 m pc ls (.int x :: .int i :: .ref (ad k) :: rest)) := by
  refine va_iast hx hb hK hw.1 hw.2.1 hw.2.2.1 k 0 (f := μ k) (by rw [MRN hk.2, ment_a hk.1]) rfl hin hdg (fun H1 locs1 hP hD hS => ?_)
  rw [← ment_a (ad := ad) (cI := cI) (f := upd (μ k) i.toNatClampNeg x) hk.1, set_l (by rw [MR_len]; exact hk.2), MR_set hk.2] at hP hD
  exact kk H1 locs1 ⟨hP, hD, hS, hw.2.2.2⟩
theorem n_iald {a n : Nat} {f : Nat → Int32} (hx : p.tables.exec = Jvm.exec) (hb : c.code = cc) (hK : MK D cI cL s) (h : va_at D CL (eI cI a n f) H) {i : Int32} (hin : vp_in i n) (hdg : decode cc pc = .ok (.iaload, 1))
    (kk : W p l e R s m args below meth c H locs cells slots Q (F0 m (pc + 1) ls (.int (f i.toNatClampNeg) :: rest))) : W p l e R s m args below meth c H locs cells slots Q (F0 m pc ls (.int i :: .ref a :: rest)) :=
  va_iald hx hb hK (va_P1 h) 0 0 rfl rfl hin hdg kk
theorem n_lald {a n : Nat} {f : Nat → Int64} (hx : p.tables.exec = Jvm.exec) (hb : c.code = cc) (hK : MK D cI cL s) (h : va_at D CL (eL cL a n f) H) {i : Int32} (hin : vp_in i n) (hdg : decode cc pc = .ok (.laload, 1))
    (kk : W p l e R s m args below meth c H locs cells slots Q (F0 m (pc + 1) ls (.long (f i.toNatClampNeg) :: rest))) : W p l e R s m args below meth c H locs cells slots Q (F0 m pc ls (.int i :: .ref a :: rest)) :=
  va_lald hx hb hK (va_P1 h) 0 1 rfl rfl hin hdg kk
theorem n_alenI {a n : Nat} {f : Nat → Int32} (hx : p.tables.exec = Jvm.exec) (hb : c.code = cc) (hK : MK D cI cL s) (h : va_at D CL (eI cI a n f) H) (hdg : decode cc pc = .ok (.arraylength, 1))
    (kk : W p l e R s m args below meth c H locs cells slots Q (F0 m (pc + 1) ls (.int (nI n) :: rest))) : W p l e R s m args below meth c H locs cells slots Q (F0 m pc ls (.ref a :: rest)) :=
  va_alen hx hb hK (va_P1 h) 0 0 (x := (n, .inl f)) rfl rfl rfl hdg kk
theorem n_iast {a n j : Nat} {f : Nat → Int32} (hx : p.tables.exec = Jvm.exec) (hb : c.code = cc) (hK : MK D cI cL s) (hw : MW D RG N A s H locs) (h : N[j]? = some (eI cI a n f)) {i x : Int32} (hin : vp_in i n) (hdg : decode cc pc = .ok (.iastore, 1))
    (kk : ∀ (H1 : Heap) (locs1 : List Loc), MW D RG (N.set j (eI cI a n (upd f i.toNatClampNeg x))) A s H1 locs1 → W p l e R s m args below meth c H1 locs1 cells slots Q (F0 m (pc + 1) ls rest)) : W p l e R s m args below meth c H locs cells slots Q (F0 m pc ls (.int x :: .int i :: .ref a :: rest)) := by
  refine va_iast hx hb hK hw.1 hw.2.1 hw.2.2.1 (RG.length + j) 0 (f := f) (NAT h) rfl hin hdg (fun H1 locs1 hP hD hS => ?_)
  rw [set_r] at hP hD
  exact kk H1 locs1 ⟨hP, hD, hS, hw.2.2.2⟩
theorem n_last {a n j : Nat} {f : Nat → Int64} (hx : p.tables.exec = Jvm.exec) (hb : c.code = cc) (hK : MK D cI cL s) (hw : MW D RG N A s H locs) (h : N[j]? = some (eL cL a n f)) {i : Int32} {x : Int64} (hin : vp_in i n) (hdg : decode cc pc = .ok (.lastore, 1))
    (kk : ∀ (H1 : Heap) (locs1 : List Loc), MW D RG (N.set j (eL cL a n (vp_updL f i.toNatClampNeg x))) A s H1 locs1 → W p l e R s m args below meth c H1 locs1 cells slots Q (F0 m (pc + 1) ls rest)) : W p l e R s m args below meth c H locs cells slots Q (F0 m pc ls (.long x :: .int i :: .ref a :: rest)) := by
  refine va_last hx hb hK hw.1 hw.2.1 hw.2.2.1 (RG.length + j) 1 (f := f) (NAT h) rfl hin hdg (fun H1 locs1 hP hD hS => ?_)
  rw [set_r] at hP hD
  exact kk H1 locs1 ⟨hP, hD, hS, hw.2.2.2⟩
theorem n_newI {B : Nat} (hx : p.tables.exec = Jvm.exec) (hb : c.code = cc) (ht : ∀ w ∈ W0, w.before args s = true) (hq : Cond.arrayClass .int ∈ W0) (hK : MK D cI cL s) (hw : MW D RG N A s H locs) {n : Int32} (hn : ¬ n < 0 ∧ n.toNatClampNeg ≤ B) (hB : B ≤ 1000000) (hcells : cells + 1 ≤ R.cells) (hslots : slots + B ≤ R.slots) (hdg : decode cc pc = .ok (.newarray .int, 2))
    (kk : ∀ (q : Nat) (H1 : Heap), s.heap.size ≤ q → MW D RG (N ++ [eI cI q n.toNatClampNeg (fun _ => 0)]) A s H1 locs → W p l e R s m args below meth c H1 locs (cells + 1) (slots + B) Q (F0 m (pc + 2) ls (.ref q :: rest))) : W p l e R s m args below meth c H locs cells slots Q (F0 m pc ls (.int n :: rest)) := by
  refine va_newaK (atype := .int) hx hb (ht _ hq) rfl hdg rfl hn.1 rfl (Nat.le_trans (Nat.mul_le_mul_right _ (Nat.le_trans hn.2 hB)) (Nat.le_of_ble_eq_true rfl)) hcells (by omega) rfl (fun H1 cA e0 z1 o1 _ hNm => ?_)
  have e1 : cA = cI := Option.some.inj (hNm.symm.trans (hK.2 0 _ rfl).2)
  subst e1
  refine W.widen (Nat.le_refl _) (show slots + n.toNatClampNeg ≤ slots + B by omega) (kk H.size H1 hw.2.2.1.1 (MW.push (H0 := H) ⟨hw.1.kept (fun k q hk => o1 q.1 (hw.lt k q hk)), hw.2.1, ⟨Nat.le_trans hw.2.2.1.1 (by omega), fun x h1 h2 => (o1 x (Nat.lt_of_lt_of_le h1 hw.2.2.1.1)).trans (hw.2.2.1.2.1 x h1 h2), hw.2.2.1.2.2⟩, hw.2.2.2⟩ ?_ (Nat.le_refl _) hw.lt hw.2.2.1.1))
  exact e0
theorem n_newL {B : Nat} (hx : p.tables.exec = Jvm.exec) (hb : c.code = cc) (ht : ∀ w ∈ W0, w.before args s = true) (hq : Cond.arrayClass .long ∈ W0) (hK : MK D cI cL s) (hw : MW D RG N A s H locs) {n : Int32} (hn : ¬ n < 0 ∧ n.toNatClampNeg ≤ B) (hB : B ≤ 1000000) (hcells : cells + 1 ≤ R.cells) (hslots : slots + B ≤ R.slots) (hdg : decode cc pc = .ok (.newarray .long, 2))
    (kk : ∀ (q : Nat) (H1 : Heap), s.heap.size ≤ q → MW D RG (N ++ [eL cL q n.toNatClampNeg (fun _ => 0)]) A s H1 locs → W p l e R s m args below meth c H1 locs (cells + 1) (slots + B) Q (F0 m (pc + 2) ls (.ref q :: rest))) : W p l e R s m args below meth c H locs cells slots Q (F0 m pc ls (.int n :: rest)) := by
  refine va_newaK (atype := .long) hx hb (ht _ hq) rfl hdg rfl hn.1 rfl (Nat.le_trans (Nat.mul_le_mul_right _ (Nat.le_trans hn.2 hB)) (Nat.le_of_ble_eq_true rfl)) hcells (by omega) rfl (fun H1 cA e0 z1 o1 _ hNm => ?_)
  have e1 : cA = cL := Option.some.inj (hNm.symm.trans (hK.2 1 _ rfl).2)
  subst e1
  refine W.widen (Nat.le_refl _) (show slots + n.toNatClampNeg ≤ slots + B by omega) (kk H.size H1 hw.2.2.1.1 (MW.push (H0 := H) ⟨hw.1.kept (fun k q hk => o1 q.1 (hw.lt k q hk)), hw.2.1, ⟨Nat.le_trans hw.2.2.1.1 (by omega), fun x h1 h2 => (o1 x (Nat.lt_of_lt_of_le h1 hw.2.2.1.1)).trans (hw.2.2.1.2.1 x h1 h2), hw.2.2.1.2.2⟩, hw.2.2.2⟩ ?_ (Nat.le_refl _) hw.lt hw.2.2.1.1))
  exact e0
def SB (D : va_G) (cI cL : ClassId) (sz : Nat) (L0 : va_W) : State → Prop := fun U => U.heap.size = sz ∧ va_P D CL L0 U.heap ∧ MK D cI cL U
def MI (ad : Nat → Nat) : Prop := ∀ i j : Nat, i < 5 → j < 5 → ad i = ad j → i = j
def MB (D : va_G) (ad : Nat → Nat) (cI cL : ClassId) (sz : Nat) (μ : TMem) (L0 : va_W) : State → Prop := fun U => U.heap.size = sz ∧ va_P D CL (MR ad cI μ) U.heap ∧ va_P D CL L0 U.heap ∧ MK D cI cL U ∧ MI ad ∧ ∀ (j : Nat) (x : Nat × va_E), L0[j]? = some x → ∀ k, k < 5 → x.1 ≠ ad k
def ME (D : va_G) (ad : Nat → Nat) (cI : ClassId) : TMem → State → Prop := fun μ t => va_P D CL (MR ad cI μ) t.heap
abbrev AI : Type := Nat × (Nat → Int32)
abbrev AL : Type := Nat × (Nat → Int64)
theorem SB.blind {as : List Value} {sz : Nat} {L0 : va_W} : FrameBlind (va_Pc as (SB D cI cL sz L0)) := fun a U g mk q => ⟨q.1, q.2.1, q.2.2.1, va_K.moved (u := U) (U := U.calling g mk a) (Vm.Alike.refl U.vm) q.2.2.2⟩
theorem MB.blind {as : List Value} {sz : Nat} {L0 : va_W} : FrameBlind (va_Pc as (MB D ad cI cL sz μ L0)) := fun a U g mk q => ⟨q.1, q.2.1, q.2.2.1, q.2.2.2.1, va_K.moved (u := U) (U := U.calling g mk a) (Vm.Alike.refl U.vm) q.2.2.2.2.1, q.2.2.2.2.2⟩
theorem SB.pre {as : List Value} {L0 : va_W} (hK : MK D cI cL s) (h : va_P D CL L0 H) : ∀ U : State, U.heap = H → s.WarmedH U.vm → va_Pc as (SB D cI cL H.size L0) as.toArray U := fun U hU hW => ⟨rfl, by rw [hU], by rw [hU]; exact h, va_K.moved hW.alike hK⟩
theorem MB.pre {as : List Value} {L0 : va_W} (hK : MK D cI cL s) (hI : MI ad) (hw : MW D (MR ad cI μ) N A s H locs) (h : va_P D CL L0 H) (hne : ∀ (j : Nat) (x : Nat × va_E), L0[j]? = some x → ∀ k, k < 5 → x.1 ≠ ad k) : ∀ U : State, U.heap = H → s.WarmedH U.vm → va_Pc as (MB D ad cI cL H.size μ L0) as.toArray U := fun U hU hW => ⟨rfl, by rw [hU], by rw [hU]; exact fun k q hk => hw.1 k q (by rw [List.getElem?_append_left (List.getElem?_eq_some_iff.mp hk).1]; exact hk), by rw [hU]; exact h, va_K.moved hW.alike hK, hI, hne⟩
theorem MW.ne (hw : MW D (MR ad cI μ) N A s H locs) {j : Nat} {x : Nat × va_E} (h : N[j]? = some x) : ∀ k, k < 5 → x.1 ≠ ad k := fun k hk e => by
  have := hw.2.1.1 (5 + j) k x (ad k, ment ad cI (μ k) k) (by have := NAT (RG := MR ad cI μ) h; rw [MR_len] at this; exact this) (MRN hk) e
  omega
theorem ne0 : ∀ (j : Nat) (x : Nat × va_E), ([] : va_W)[j]? = some x → ∀ k, k < 5 → x.1 ≠ ad k := fun j x h => by simp at h
theorem neC {x : Nat × va_E} {L : va_W} (h : ∀ k, k < 5 → x.1 ≠ ad k) (hL : ∀ (j : Nat) (y : Nat × va_E), L[j]? = some y → ∀ k, k < 5 → y.1 ≠ ad k) : ∀ (j : Nat) (y : Nat × va_E), (x :: L)[j]? = some y → ∀ k, k < 5 → y.1 ≠ ad k := fun j y hy => by
  cases j with
  | zero => cases hy; exact h
  | succ i => exact hL i y hy
theorem M_recv (hK : MK D cI cL s) (hw : MW D (MR ad cI μ) N A s H locs) : ∃ cell : Cell, H[ad 0]? = some cell ∧ cell.vm.isStatics = false ∧ s.vm.findClass RX11 = some cell.cls := va_recv hK hw.1 cl_10 (MRN (by decide))
/-- results that are arrays: fresh, their cells -/
def QA (D : va_G) (cI : ClassId) (sz : Nat) (E : TMem → State → Prop) (A : Nat → Prop) (Q : Option AI → TMem → Prop) : Array Value → State → Outcome → State → Prop := va_Qq (fun (r : Option Nat) (u : Option (Nat × AI) × TMem) => r = u.1.map (·.1) ∧ (∀ x, u.1 = some x → sz ≤ x.1) ∧ Q (u.1.map (·.2)) u.2) (fun u t => E u.2 t ∧ ∀ x, u.1 = some x → va_at D CL (eI cI x.1 x.2.1 x.2.2) t.heap) A
def QL (D : va_G) (cL : ClassId) (sz : Nat) (E : TMem → State → Prop) (A : Nat → Prop) (Q : AL → TMem → Prop) : Array Value → State → Outcome → State → Prop := va_Qq (fun (r : Option Nat) (u : (Nat × AL) × TMem) => r = some u.1.1 ∧ sz ≤ u.1.1 ∧ Q u.1.2 u.2) (fun u t => E u.2 t ∧ va_at D CL (eL cL u.1.1 u.1.2.1 u.1.2.2) t.heap) A
def MMi (l : Launch) (y : MethodName) (cd : Cond) (h c n : Nat) (as : List Value) (D : va_G) (ad : Nat → Nat) (cI cL : ClassId) (sz : Nat) (μ : TMem) (L0 : va_W) (Q : Int32 → TMem → Prop) : Prop := Met l y (cd :: W0) (RA h c n) (va_Pc as (MB D ad cI cL sz μ L0)) (va_Qi Q (ME D ad cI) (MA ad sz)) c n (MA ad sz)
def SMi (l : Launch) (y : MethodName) (cd : Cond) (h c n : Nat) (as : List Value) (D : va_G) (cI cL : ClassId) (sz : Nat) (L0 : va_W) (Q : Int32 → Prop) : Prop := Met l y (cd :: W0) (RA h c n) (va_Pc as (SB D cI cL sz L0)) (va_Qi (fun r (_ : Unit) => Q r) (fun _ _ => True) (SA sz)) c n (SA sz)
def MMl (l : Launch) (y : MethodName) (cd : Cond) (h c n : Nat) (as : List Value) (D : va_G) (ad : Nat → Nat) (cI cL : ClassId) (sz : Nat) (μ : TMem) (L0 : va_W) (Q : Int64 → TMem → Prop) : Prop := Met l y (cd :: W0) (RA h c n) (va_Pc as (MB D ad cI cL sz μ L0)) (va_Ql Q (ME D ad cI) (MA ad sz)) c n (MA ad sz)
def SMl (l : Launch) (y : MethodName) (cd : Cond) (h c n : Nat) (as : List Value) (D : va_G) (cI cL : ClassId) (sz : Nat) (L0 : va_W) (Q : Int64 → Prop) : Prop := Met l y (cd :: W0) (RA h c n) (va_Pc as (SB D cI cL sz L0)) (va_Ql (fun r (_ : Unit) => Q r) (fun _ _ => True) (SA sz)) c n (SA sz)
def MMv (l : Launch) (y : MethodName) (cd : Cond) (h c n : Nat) (as : List Value) (D : va_G) (ad : Nat → Nat) (cI cL : ClassId) (sz : Nat) (μ : TMem) (L0 : va_W) (Q : TMem → Prop) : Prop := Met l y (cd :: W0) (RA h c n) (va_Pc as (MB D ad cI cL sz μ L0)) (va_Qv Q (ME D ad cI) (MA ad sz)) c n (MA ad sz)
def SMv (l : Launch) (y : MethodName) (cd : Cond) (h c n : Nat) (as : List Value) (D : va_G) (cI cL : ClassId) (sz : Nat) (L0 : va_W) (Q : Prop) : Prop := Met l y (cd :: W0) (RA h c n) (va_Pc as (SB D cI cL sz L0)) (va_Qv (fun (_ : Unit) => Q) (fun _ _ => True) (SA sz)) c n (SA sz)
def MMA (l : Launch) (y : MethodName) (cd : Cond) (h c n : Nat) (as : List Value) (D : va_G) (ad : Nat → Nat) (cI cL : ClassId) (sz : Nat) (μ : TMem) (L0 : va_W) (Q : Option AI → TMem → Prop) : Prop := Met l y (cd :: W0) (RA h c n) (va_Pc as (MB D ad cI cL sz μ L0)) (QA D cI sz (ME D ad cI) (MA ad sz) Q) c n (MA ad sz)
def SMA (l : Launch) (y : MethodName) (cd : Cond) (h c n : Nat) (as : List Value) (D : va_G) (cI cL : ClassId) (sz : Nat) (L0 : va_W) (Q : Option AI → Prop) : Prop := Met l y (cd :: W0) (RA h c n) (va_Pc as (SB D cI cL sz L0)) (QA D cI sz (fun _ _ => True) (SA sz) (fun r _ => Q r)) c n (SA sz)
def MML (l : Launch) (y : MethodName) (cd : Cond) (h c n : Nat) (as : List Value) (D : va_G) (ad : Nat → Nat) (cI cL : ClassId) (sz : Nat) (μ : TMem) (L0 : va_W) (Q : AL → TMem → Prop) : Prop := Met l y (cd :: W0) (RA h c n) (va_Pc as (MB D ad cI cL sz μ L0)) (QL D cL sz (ME D ad cI) (MA ad sz) Q) c n (MA ad sz)
def SML (l : Launch) (y : MethodName) (cd : Cond) (h c n : Nat) (as : List Value) (D : va_G) (cI cL : ClassId) (sz : Nat) (L0 : va_W) (Q : AL → Prop) : Prop := Met l y (cd :: W0) (RA h c n) (va_Pc as (SB D cI cL sz L0)) (QL D cL sz (fun _ _ => True) (SA sz) (fun r _ => Q r)) c n (SA sz)
variable {st0 : List Value} {a : Array Value} {mc ms : Nat}
theorem M_calli {Q1 : Int32 → TMem → Prop} (hw : MW D (MR ad cI μ) N A s H locs) (hA : ∀ q, MA ad H.size q → A q) (hr : va_Run p l e R s m args below meth c H locs cells slots mc ms (F0 m pc ls st0) rest (va_Qi Q1 (ME D ad cI) (MA ad H.size) a) (MA ad H.size))
    (kk : ∀ (r : Int32) (μ1 : TMem) (H1 : Heap) (locs1 : List Loc), Q1 r μ1 → MW D (MR ad cI μ1) N A s H1 locs1 → W p l e R s m args below meth c H1 locs1 (cells + mc) (slots + ms) Q (F0 m (pc + 3) ls (.int r :: rest))) : W p l e R s m args below meth c H locs cells slots Q (F0 m pc ls st0) :=
  va_calli hr hw.2.2.1 (fun q _ h => hA q h) (fun q h => hA q h) (fun r u t H1 locs1 ht _ hq hB _ hk hS => kk r u H1 locs1 hq (hw.keepM hk (by rw [← ht]; exact hB) hS))
theorem S_calli {Q1 : Int32 → Prop} (hw : MW D RG N A s H locs) (hr : va_Run p l e R s m args below meth c H locs cells slots mc ms (F0 m pc ls st0) rest (va_Qi (fun r (_ : Unit) => Q1 r) (fun _ _ => True) (SA H.size) a) (SA H.size))
    (kk : ∀ (r : Int32) (H1 : Heap) (locs1 : List Loc), Q1 r → MW D RG N A s H1 locs1 → W p l e R s m args below meth c H1 locs1 (cells + mc) (slots + ms) Q (F0 m (pc + 3) ls (.int r :: rest))) : W p l e R s m args below meth c H locs cells slots Q (F0 m pc ls st0) :=
  va_calli hr hw.2.2.1 (fun q _ h => hw.2.2.2 q (Nat.le_trans hw.2.2.1.1 h)) (fun q h => hw.2.2.2 q (Nat.le_trans hw.2.2.1.1 h)) (fun r u t H1 locs1 ht _ hq hB _ hk hS => kk r H1 locs1 hq (hw.keepS hk hS))
theorem M_calll {Q1 : Int64 → TMem → Prop} (hw : MW D (MR ad cI μ) N A s H locs) (hA : ∀ q, MA ad H.size q → A q) (hr : va_Run p l e R s m args below meth c H locs cells slots mc ms (F0 m pc ls st0) rest (va_Ql Q1 (ME D ad cI) (MA ad H.size) a) (MA ad H.size))
    (kk : ∀ (r : Int64) (μ1 : TMem) (H1 : Heap) (locs1 : List Loc), Q1 r μ1 → MW D (MR ad cI μ1) N A s H1 locs1 → W p l e R s m args below meth c H1 locs1 (cells + mc) (slots + ms) Q (F0 m (pc + 3) ls (.long r :: rest))) : W p l e R s m args below meth c H locs cells slots Q (F0 m pc ls st0) :=
  va_calll hr hw.2.2.1 (fun q _ h => hA q h) (fun q h => hA q h) (fun r u t H1 locs1 ht _ hq hB _ hk hS => kk r u H1 locs1 hq (hw.keepM hk (by rw [← ht]; exact hB) hS))
theorem S_calll {Q1 : Int64 → Prop} (hw : MW D RG N A s H locs) (hr : va_Run p l e R s m args below meth c H locs cells slots mc ms (F0 m pc ls st0) rest (va_Ql (fun r (_ : Unit) => Q1 r) (fun _ _ => True) (SA H.size) a) (SA H.size))
    (kk : ∀ (r : Int64) (H1 : Heap) (locs1 : List Loc), Q1 r → MW D RG N A s H1 locs1 → W p l e R s m args below meth c H1 locs1 (cells + mc) (slots + ms) Q (F0 m (pc + 3) ls (.long r :: rest))) : W p l e R s m args below meth c H locs cells slots Q (F0 m pc ls st0) :=
  va_calll hr hw.2.2.1 (fun q _ h => hw.2.2.2 q (Nat.le_trans hw.2.2.1.1 h)) (fun q h => hw.2.2.2 q (Nat.le_trans hw.2.2.1.1 h)) (fun r u t H1 locs1 ht _ hq hB _ hk hS => kk r H1 locs1 hq (hw.keepS hk hS))
theorem M_callv {Q1 : TMem → Prop} (hw : MW D (MR ad cI μ) N A s H locs) (hA : ∀ q, MA ad H.size q → A q) (hr : va_Run p l e R s m args below meth c H locs cells slots mc ms (F0 m pc ls st0) rest (va_Qv Q1 (ME D ad cI) (MA ad H.size) a) (MA ad H.size))
    (kk : ∀ (μ1 : TMem) (H1 : Heap) (locs1 : List Loc), Q1 μ1 → MW D (MR ad cI μ1) N A s H1 locs1 → W p l e R s m args below meth c H1 locs1 (cells + mc) (slots + ms) Q (F0 m (pc + 3) ls (rest))) : W p l e R s m args below meth c H locs cells slots Q (F0 m pc ls st0) :=
  va_callv hr hw.2.2.1 (fun q _ h => hA q h) (fun q h => hA q h) (fun u t H1 locs1 ht _ hq hB _ hk hS => kk u H1 locs1 hq (hw.keepM hk (by rw [← ht]; exact hB) hS))
theorem S_callv {Q1 : Prop} (hw : MW D RG N A s H locs) (hr : va_Run p l e R s m args below meth c H locs cells slots mc ms (F0 m pc ls st0) rest (va_Qv (fun (_ : Unit) => Q1) (fun _ _ => True) (SA H.size) a) (SA H.size))
    (kk : ∀ (H1 : Heap) (locs1 : List Loc), Q1  → MW D RG N A s H1 locs1 → W p l e R s m args below meth c H1 locs1 (cells + mc) (slots + ms) Q (F0 m (pc + 3) ls (rest))) : W p l e R s m args below meth c H locs cells slots Q (F0 m pc ls st0) :=
  va_callv hr hw.2.2.1 (fun q _ h => hw.2.2.2 q (Nat.le_trans hw.2.2.1.1 h)) (fun q h => hw.2.2.2 q (Nat.le_trans hw.2.2.1.1 h)) (fun u t H1 locs1 ht _ hq hB _ hk hS => kk H1 locs1 hq (hw.keepS hk hS))
theorem M_callA {Q1 : Option AI → TMem → Prop} (hw : MW D (MR ad cI μ) N A s H locs) (hA : ∀ q, MA ad H.size q → A q) (hr : va_Run p l e R s m args below meth c H locs cells slots mc ms (F0 m pc ls st0) rest (QA D cI H.size (ME D ad cI) (MA ad H.size) Q1 a) (MA ad H.size))
    (k0 : ∀ (μ1 : TMem) (H1 : Heap) (locs1 : List Loc), Q1 none μ1 → MW D (MR ad cI μ1) N A s H1 locs1 → W p l e R s m args below meth c H1 locs1 (cells + mc) (slots + ms) Q (F0 m (pc + 3) ls (.null :: rest)))
    (kk : ∀ (q n : Nat) (f : Nat → Int32) (μ1 : TMem) (H1 : Heap) (locs1 : List Loc), s.heap.size ≤ q → Q1 (some (n, f)) μ1 → MW D (MR ad cI μ1) (N ++ [eI cI q n f]) A s H1 locs1 → W p l e R s m args below meth c H1 locs1 (cells + mc) (slots + ms) Q (F0 m (pc + 3) ls (.ref q :: rest))) : W p l e R s m args below meth c H locs cells slots Q (F0 m pc ls st0) := by
  refine va_callq hr hw.2.2.1 (fun q _ h => hA q h) (fun q h => hA q h) (fun r u t H1 locs1 ht _ hq hB _ hk hS => ?_)
  obtain ⟨hr1, hf, hq⟩ := hq
  obtain ⟨u1, μ1⟩ := u
  have hw1 := hw.keepM hk (by rw [← ht]; exact hB.1) hS
  cases u1 with
  | none => subst hr1; exact k0 μ1 H1 locs1 hq hw1
  | some x => subst hr1; exact kk x.1 x.2.1 x.2.2 μ1 H1 locs1 (Nat.le_trans hw.2.2.1.1 (hf x rfl)) hq (hw1.push (H0 := H) (by rw [← ht]; exact hB.2 x rfl) (hf x rfl) (fun k q hk => by
      by_cases hi : k < 5
      · rw [MRN hi] at hk
        cases hk
        have h9 := hw.lt k (ad k, ment ad cI (μ k) k) (MRN hi)
        exact h9
      · rw [List.getElem?_append_right (by rw [MR_len]; omega), MR_len] at hk
        exact hw.lt k q (by rw [List.getElem?_append_right (by rw [MR_len]; omega), MR_len]; exact hk)) hw.2.2.1.1)
theorem S_callA {Q1 : Option AI → Prop} (hw : MW D RG N A s H locs) (hr : va_Run p l e R s m args below meth c H locs cells slots mc ms (F0 m pc ls st0) rest (QA D cI H.size (fun _ _ => True) (SA H.size) (fun r _ => Q1 r) a) (SA H.size))
    (k0 : ∀ (H1 : Heap) (locs1 : List Loc), Q1 none → MW D RG N A s H1 locs1 → W p l e R s m args below meth c H1 locs1 (cells + mc) (slots + ms) Q (F0 m (pc + 3) ls (.null :: rest)))
    (kk : ∀ (q n : Nat) (f : Nat → Int32) (H1 : Heap) (locs1 : List Loc), s.heap.size ≤ q → Q1 (some (n, f)) → MW D RG (N ++ [eI cI q n f]) A s H1 locs1 → W p l e R s m args below meth c H1 locs1 (cells + mc) (slots + ms) Q (F0 m (pc + 3) ls (.ref q :: rest))) : W p l e R s m args below meth c H locs cells slots Q (F0 m pc ls st0) := by
  refine va_callq hr hw.2.2.1 (fun q _ h => hw.2.2.2 q (Nat.le_trans hw.2.2.1.1 h)) (fun q h => hw.2.2.2 q (Nat.le_trans hw.2.2.1.1 h)) (fun r u t H1 locs1 ht _ hq hB _ hk hS => ?_)
  obtain ⟨hr1, hf, hq⟩ := hq
  obtain ⟨u1, μ1⟩ := u
  have hw1 := hw.keepS hk hS
  cases u1 with
  | none => subst hr1; exact k0 H1 locs1 hq hw1
  | some x => subst hr1; exact kk x.1 x.2.1 x.2.2 H1 locs1 (Nat.le_trans hw.2.2.1.1 (hf x rfl)) hq (hw1.push (H0 := H) (by rw [← ht]; exact hB.2 x rfl) (hf x rfl) hw.lt hw.2.2.1.1)
theorem M_callL {Q1 : AL → TMem → Prop} (hw : MW D (MR ad cI μ) N A s H locs) (hA : ∀ q, MA ad H.size q → A q) (hr : va_Run p l e R s m args below meth c H locs cells slots mc ms (F0 m pc ls st0) rest (QL D cL H.size (ME D ad cI) (MA ad H.size) Q1 a) (MA ad H.size))
    (kk : ∀ (q n : Nat) (f : Nat → Int64) (μ1 : TMem) (H1 : Heap) (locs1 : List Loc), s.heap.size ≤ q → Q1 (n, f) μ1 → MW D (MR ad cI μ1) (N ++ [eL cL q n f]) A s H1 locs1 → W p l e R s m args below meth c H1 locs1 (cells + mc) (slots + ms) Q (F0 m (pc + 3) ls (.ref q :: rest))) : W p l e R s m args below meth c H locs cells slots Q (F0 m pc ls st0) := by
  refine va_callq hr hw.2.2.1 (fun q _ h => hA q h) (fun q h => hA q h) (fun r u t H1 locs1 ht _ hq hB _ hk hS => ?_)
  obtain ⟨hr1, hf, hq⟩ := hq
  obtain ⟨x, μ1⟩ := u
  have hw1 := hw.keepM hk (by rw [← ht]; exact hB.1) hS
  subst hr1
  exact kk x.1 x.2.1 x.2.2 μ1 H1 locs1 (Nat.le_trans hw.2.2.1.1 hf) hq (hw1.push (H0 := H) (by rw [← ht]; exact hB.2) hf (fun k q hk => by
      by_cases hi : k < 5
      · rw [MRN hi] at hk
        cases hk
        have h9 := hw.lt k (ad k, ment ad cI (μ k) k) (MRN hi)
        exact h9
      · rw [List.getElem?_append_right (by rw [MR_len]; omega), MR_len] at hk
        exact hw.lt k q (by rw [List.getElem?_append_right (by rw [MR_len]; omega), MR_len]; exact hk)) hw.2.2.1.1)
theorem M_meti {l : Launch} {y : MethodName} {bytes : ByteArray} {maxL : Nat} {ty : FieldType} {h fc fn : Nat} {as : List Value} {D : va_G} {cI cL : ClassId} {sz : Nat} {L0 : va_W} {ad : Nat → Nat} {μ : TMem} {Q : Int32 → TMem → Prop} (hy : plainName y.cls = true) (hsl : (lg_sl as).length ≤ maxL)
    (body : ∀ (p : Program) (e : Env) (s : State) (m : MethodId) (below : List Frame) (meth : Method) (c : Code) (Z : State → Prop) (ls : Array Slot), p.tables.exec = Jvm.exec → c.code = bytes → c.maxLocals = maxL → s.vm.findClass y.cls = some m.cls → (∀ w ∈ W0, w.before as.toArray s = true) → MK D cI cL s → va_P D CL L0 s.heap → MI ad → (∀ (j : Nat) (x : Nat × va_E), L0[j]? = some x → ∀ k, k < 5 → x.1 ≠ ad k) → MW D (MR ad cI μ) [] (MA ad s.heap.size) s s.heap [] → (∀ (H : Heap) (locs : List Loc) (ls : Array Slot) (pc cells slots : Nat) (N : va_W) (v : Int32) (μ1 : TMem) , MW D (MR ad cI μ1) N (MA ad s.heap.size) s H locs → Q v μ1 → narrow ty (.int v) = .int v → cells ≤ fc → slots ≤ fn → decode bytes pc = .ok (.ireturn, 1) → W p l e (RA h fc fn) s m as.toArray below meth c H locs cells slots Z (F0 m pc ls [.int v])) → lv_has ls maxL (lv_args 0 as) →
      W p l e (RA h fc fn) s m as.toArray below meth c s.heap [] 0 0 Z (F0 m 0 ls [])) : MMi l y (.code y bytes maxL (some ty)) h fc fn as D ad cI cL sz μ L0 Q := by
  refine Met.ofW (cc := bytes) (maxL := maxL) (ret := (some ty)) hy rfl ?_
  intro p e s m args below meth c s₁ B hml hv
  obtain ⟨rfl, hsz, hP, hP0, hK, hI, hne⟩ := hv
  subst hsz
  have hts := atoms_spec B.pre
  have hlocks := B.notSynchronized
  rw [lg_entry_eq]
  exact body p e s m below meth c _ _ B.exec B.bytes hml (findClass_of_methodNamed B.named) (fun w hw => hts w (List.mem_cons_of_mem _ hw)) hK hP0 hI hne ⟨by rw [List.append_nil]; exact hP, by rw [List.append_nil]; exact ⟨fun i j x y hx hy e => by obtain ⟨h1, rfl⟩ := MR_of hx; obtain ⟨h2, rfl⟩ := MR_of hy; exact hI i j h1 h2 e, fun k x hx => by obtain ⟨h1, rfl⟩ := MR_of hx; exact Or.inl ⟨k, h1, rfl⟩⟩, va_S.rf, fun q h => Or.inr h⟩ (fun H locs ls pc cells slots N v μ1 hw hq hn hc hs hdg => W.widen hc hs (W.zret B.exec B.bytes B.returns hn (fun t ht9 hW => ⟨⟨v, μ1, rfl, hq, by show va_P D CL (MR ad cI μ1) t.heap; rw [ht9]; exact fun k q hk => hw.1 k q (by rw [List.getElem?_append_left (List.getElem?_eq_some_iff.mp hk).1]; exact hk)⟩, hw.2.2.1.F ht9⟩) hw.2.2.1.2.2 hdg hlocks)) (lv_entry as hsl)
theorem M_metl {l : Launch} {y : MethodName} {bytes : ByteArray} {maxL : Nat} {h fc fn : Nat} {as : List Value} {D : va_G} {cI cL : ClassId} {sz : Nat} {L0 : va_W} {ad : Nat → Nat} {μ : TMem} {Q : Int64 → TMem → Prop} (hy : plainName y.cls = true) (hsl : (lg_sl as).length ≤ maxL)
    (body : ∀ (p : Program) (e : Env) (s : State) (m : MethodId) (below : List Frame) (meth : Method) (c : Code) (Z : State → Prop) (ls : Array Slot), p.tables.exec = Jvm.exec → c.code = bytes → c.maxLocals = maxL → s.vm.findClass y.cls = some m.cls → (∀ w ∈ W0, w.before as.toArray s = true) → MK D cI cL s → va_P D CL L0 s.heap → MI ad → (∀ (j : Nat) (x : Nat × va_E), L0[j]? = some x → ∀ k, k < 5 → x.1 ≠ ad k) → MW D (MR ad cI μ) [] (MA ad s.heap.size) s s.heap [] → (∀ (H : Heap) (locs : List Loc) (ls : Array Slot) (pc cells slots : Nat) (N : va_W) (v : Int64) (μ1 : TMem) , MW D (MR ad cI μ1) N (MA ad s.heap.size) s H locs → Q v μ1 → cells ≤ fc → slots ≤ fn → decode bytes pc = .ok (.lreturn, 1) → W p l e (RA h fc fn) s m as.toArray below meth c H locs cells slots Z (F0 m pc ls [.long v])) → lv_has ls maxL (lv_args 0 as) →
      W p l e (RA h fc fn) s m as.toArray below meth c s.heap [] 0 0 Z (F0 m 0 ls [])) : MMl l y (.code y bytes maxL (some .long)) h fc fn as D ad cI cL sz μ L0 Q := by
  refine Met.ofW (cc := bytes) (maxL := maxL) (ret := (some .long)) hy rfl ?_
  intro p e s m args below meth c s₁ B hml hv
  obtain ⟨rfl, hsz, hP, hP0, hK, hI, hne⟩ := hv
  subst hsz
  have hts := atoms_spec B.pre
  have hlocks := B.notSynchronized
  rw [lg_entry_eq]
  exact body p e s m below meth c _ _ B.exec B.bytes hml (findClass_of_methodNamed B.named) (fun w hw => hts w (List.mem_cons_of_mem _ hw)) hK hP0 hI hne ⟨by rw [List.append_nil]; exact hP, by rw [List.append_nil]; exact ⟨fun i j x y hx hy e => by obtain ⟨h1, rfl⟩ := MR_of hx; obtain ⟨h2, rfl⟩ := MR_of hy; exact hI i j h1 h2 e, fun k x hx => by obtain ⟨h1, rfl⟩ := MR_of hx; exact Or.inl ⟨k, h1, rfl⟩⟩, va_S.rf, fun q h => Or.inr h⟩ (fun H locs ls pc cells slots N v μ1 hw hq hc hs hdg => W.widen hc hs (W.lret B.exec B.bytes B.returns (fun t ht9 hW => ⟨⟨v, μ1, rfl, hq, by show va_P D CL (MR ad cI μ1) t.heap; rw [ht9]; exact fun k q hk => hw.1 k q (by rw [List.getElem?_append_left (List.getElem?_eq_some_iff.mp hk).1]; exact hk)⟩, hw.2.2.1.F ht9⟩) hw.2.2.1.2.2 hdg hlocks)) (lv_entry as hsl)
theorem M_metv {l : Launch} {y : MethodName} {bytes : ByteArray} {maxL : Nat} {h fc fn : Nat} {as : List Value} {D : va_G} {cI cL : ClassId} {sz : Nat} {L0 : va_W} {ad : Nat → Nat} {μ : TMem} {Q : TMem → Prop} (hy : plainName y.cls = true) (hsl : (lg_sl as).length ≤ maxL)
    (body : ∀ (p : Program) (e : Env) (s : State) (m : MethodId) (below : List Frame) (meth : Method) (c : Code) (Z : State → Prop) (ls : Array Slot), p.tables.exec = Jvm.exec → c.code = bytes → c.maxLocals = maxL → s.vm.findClass y.cls = some m.cls → (∀ w ∈ W0, w.before as.toArray s = true) → MK D cI cL s → va_P D CL L0 s.heap → MI ad → (∀ (j : Nat) (x : Nat × va_E), L0[j]? = some x → ∀ k, k < 5 → x.1 ≠ ad k) → MW D (MR ad cI μ) [] (MA ad s.heap.size) s s.heap [] → (∀ (H : Heap) (locs : List Loc) (ls : Array Slot) (pc cells slots : Nat) (N : va_W) (μ1 : TMem) , MW D (MR ad cI μ1) N (MA ad s.heap.size) s H locs → Q μ1 → cells ≤ fc → slots ≤ fn → decode bytes pc = .ok (.return_, 1) → W p l e (RA h fc fn) s m as.toArray below meth c H locs cells slots Z (F0 m pc ls [])) → lv_has ls maxL (lv_args 0 as) →
      W p l e (RA h fc fn) s m as.toArray below meth c s.heap [] 0 0 Z (F0 m 0 ls [])) : MMv l y (.code y bytes maxL none) h fc fn as D ad cI cL sz μ L0 Q := by
  refine Met.ofW (cc := bytes) (maxL := maxL) (ret := none) hy rfl ?_
  intro p e s m args below meth c s₁ B hml hv
  obtain ⟨rfl, hsz, hP, hP0, hK, hI, hne⟩ := hv
  subst hsz
  have hts := atoms_spec B.pre
  have hlocks := B.notSynchronized
  rw [lg_entry_eq]
  exact body p e s m below meth c _ _ B.exec B.bytes hml (findClass_of_methodNamed B.named) (fun w hw => hts w (List.mem_cons_of_mem _ hw)) hK hP0 hI hne ⟨by rw [List.append_nil]; exact hP, by rw [List.append_nil]; exact ⟨fun i j x y hx hy e => by obtain ⟨h1, rfl⟩ := MR_of hx; obtain ⟨h2, rfl⟩ := MR_of hy; exact hI i j h1 h2 e, fun k x hx => by obtain ⟨h1, rfl⟩ := MR_of hx; exact Or.inl ⟨k, h1, rfl⟩⟩, va_S.rf, fun q h => Or.inr h⟩ (fun H locs ls pc cells slots N μ1 hw hq hc hs hdg => W.widen hc hs (W.vret B.exec B.bytes B.returns (fun t ht9 hW => ⟨⟨μ1, rfl, hq, by show va_P D CL (MR ad cI μ1) t.heap; rw [ht9]; exact fun k q hk => hw.1 k q (by rw [List.getElem?_append_left (List.getElem?_eq_some_iff.mp hk).1]; exact hk)⟩, hw.2.2.1.F ht9⟩) hw.2.2.1.2.2 hdg hlocks)) (lv_entry as hsl)
theorem M_metA {l : Launch} {y : MethodName} {bytes : ByteArray} {maxL : Nat} {h fc fn : Nat} {as : List Value} {D : va_G} {cI cL : ClassId} {sz : Nat} {L0 : va_W} {ad : Nat → Nat} {μ : TMem} {Q : Option AI → TMem → Prop} (hy : plainName y.cls = true) (hsl : (lg_sl as).length ≤ maxL)
    (body : ∀ (p : Program) (e : Env) (s : State) (m : MethodId) (below : List Frame) (meth : Method) (c : Code) (Z : State → Prop) (ls : Array Slot), p.tables.exec = Jvm.exec → c.code = bytes → c.maxLocals = maxL → s.vm.findClass y.cls = some m.cls → (∀ w ∈ W0, w.before as.toArray s = true) → MK D cI cL s → va_P D CL L0 s.heap → MI ad → (∀ (j : Nat) (x : Nat × va_E), L0[j]? = some x → ∀ k, k < 5 → x.1 ≠ ad k) → MW D (MR ad cI μ) [] (MA ad s.heap.size) s s.heap [] → (∀ (H : Heap) (locs : List Loc) (ls : Array Slot) (pc cells slots : Nat) (N : va_W) (j q n : Nat) (f : Nat → Int32) (μ1 : TMem) , MW D (MR ad cI μ1) N (MA ad s.heap.size) s H locs → N[j]? = some (eI cI q n f) → s.heap.size ≤ q → Q (some (n, f)) μ1 → cells ≤ fc → slots ≤ fn → decode bytes pc = .ok (.areturn, 1) → W p l e (RA h fc fn) s m as.toArray below meth c H locs cells slots Z (F0 m pc ls [.ref q])) → (∀ (H : Heap) (locs : List Loc) (ls : Array Slot) (pc cells slots : Nat) (N : va_W) (μ1 : TMem) , MW D (MR ad cI μ1) N (MA ad s.heap.size) s H locs → Q none μ1 → cells ≤ fc → slots ≤ fn → decode bytes pc = .ok (.areturn, 1) → W p l e (RA h fc fn) s m as.toArray below meth c H locs cells slots Z (F0 m pc ls [.null])) → lv_has ls maxL (lv_args 0 as) →
      W p l e (RA h fc fn) s m as.toArray below meth c s.heap [] 0 0 Z (F0 m 0 ls [])) : MMA l y (.code y bytes maxL (some (.array .int))) h fc fn as D ad cI cL sz μ L0 Q := by
  refine Met.ofW (cc := bytes) (maxL := maxL) (ret := (some (.array .int))) hy rfl ?_
  intro p e s m args below meth c s₁ B hml hv
  obtain ⟨rfl, hsz, hP, hP0, hK, hI, hne⟩ := hv
  subst hsz
  have hts := atoms_spec B.pre
  have hlocks := B.notSynchronized
  rw [lg_entry_eq]
  exact body p e s m below meth c _ _ B.exec B.bytes hml (findClass_of_methodNamed B.named) (fun w hw => hts w (List.mem_cons_of_mem _ hw)) hK hP0 hI hne ⟨by rw [List.append_nil]; exact hP, by rw [List.append_nil]; exact ⟨fun i j x y hx hy e => by obtain ⟨h1, rfl⟩ := MR_of hx; obtain ⟨h2, rfl⟩ := MR_of hy; exact hI i j h1 h2 e, fun k x hx => by obtain ⟨h1, rfl⟩ := MR_of hx; exact Or.inl ⟨k, h1, rfl⟩⟩, va_S.rf, fun q h => Or.inr h⟩ (fun H locs ls pc cells slots N j q n f μ1 hw hj hf hq hc hs hdg => W.widen hc hs (W.aret B.exec B.bytes B.returns (Or.inr ⟨_, rfl⟩) (Or.inr ⟨_, rfl⟩) (fun t ht9 hW => ⟨⟨some q, (some (q, n, f), μ1), rfl, ⟨rfl, (fun x hx => by cases hx; exact hf), hq⟩, by show va_P D CL (MR ad cI μ1) t.heap; rw [ht9]; exact fun k q hk => hw.1 k q (by rw [List.getElem?_append_left (List.getElem?_eq_some_iff.mp hk).1]; exact hk), (fun x hx => by cases hx; rw [ht9]; exact hw.n hj)⟩, hw.2.2.1.F ht9⟩) hw.2.2.1.2.2 hdg hlocks)) (fun H locs ls pc cells slots N μ1 hw hq hc hs hdg => W.widen hc hs (W.aret B.exec B.bytes B.returns (Or.inr ⟨_, rfl⟩) (Or.inl rfl) (fun t ht9 hW => ⟨⟨none, (none, μ1), rfl, ⟨rfl, (fun x hx => nomatch hx), hq⟩, by show va_P D CL (MR ad cI μ1) t.heap; rw [ht9]; exact fun k q hk => hw.1 k q (by rw [List.getElem?_append_left (List.getElem?_eq_some_iff.mp hk).1]; exact hk), (fun x hx => nomatch hx)⟩, hw.2.2.1.F ht9⟩) hw.2.2.1.2.2 hdg hlocks)) (lv_entry as hsl)
theorem M_metL {l : Launch} {y : MethodName} {bytes : ByteArray} {maxL : Nat} {h fc fn : Nat} {as : List Value} {D : va_G} {cI cL : ClassId} {sz : Nat} {L0 : va_W} {ad : Nat → Nat} {μ : TMem} {Q : AL → TMem → Prop} (hy : plainName y.cls = true) (hsl : (lg_sl as).length ≤ maxL)
    (body : ∀ (p : Program) (e : Env) (s : State) (m : MethodId) (below : List Frame) (meth : Method) (c : Code) (Z : State → Prop) (ls : Array Slot), p.tables.exec = Jvm.exec → c.code = bytes → c.maxLocals = maxL → s.vm.findClass y.cls = some m.cls → (∀ w ∈ W0, w.before as.toArray s = true) → MK D cI cL s → va_P D CL L0 s.heap → MI ad → (∀ (j : Nat) (x : Nat × va_E), L0[j]? = some x → ∀ k, k < 5 → x.1 ≠ ad k) → MW D (MR ad cI μ) [] (MA ad s.heap.size) s s.heap [] → (∀ (H : Heap) (locs : List Loc) (ls : Array Slot) (pc cells slots : Nat) (N : va_W) (j q n : Nat) (f : Nat → Int64) (μ1 : TMem) , MW D (MR ad cI μ1) N (MA ad s.heap.size) s H locs → N[j]? = some (eL cL q n f) → s.heap.size ≤ q → Q (n, f) μ1 → cells ≤ fc → slots ≤ fn → decode bytes pc = .ok (.areturn, 1) → W p l e (RA h fc fn) s m as.toArray below meth c H locs cells slots Z (F0 m pc ls [.ref q])) → lv_has ls maxL (lv_args 0 as) →
      W p l e (RA h fc fn) s m as.toArray below meth c s.heap [] 0 0 Z (F0 m 0 ls [])) : MML l y (.code y bytes maxL (some (.array .long))) h fc fn as D ad cI cL sz μ L0 Q := by
  refine Met.ofW (cc := bytes) (maxL := maxL) (ret := (some (.array .long))) hy rfl ?_
  intro p e s m args below meth c s₁ B hml hv
  obtain ⟨rfl, hsz, hP, hP0, hK, hI, hne⟩ := hv
  subst hsz
  have hts := atoms_spec B.pre
  have hlocks := B.notSynchronized
  rw [lg_entry_eq]
  exact body p e s m below meth c _ _ B.exec B.bytes hml (findClass_of_methodNamed B.named) (fun w hw => hts w (List.mem_cons_of_mem _ hw)) hK hP0 hI hne ⟨by rw [List.append_nil]; exact hP, by rw [List.append_nil]; exact ⟨fun i j x y hx hy e => by obtain ⟨h1, rfl⟩ := MR_of hx; obtain ⟨h2, rfl⟩ := MR_of hy; exact hI i j h1 h2 e, fun k x hx => by obtain ⟨h1, rfl⟩ := MR_of hx; exact Or.inl ⟨k, h1, rfl⟩⟩, va_S.rf, fun q h => Or.inr h⟩ (fun H locs ls pc cells slots N j q n f μ1 hw hj hf hq hc hs hdg => W.widen hc hs (W.aret B.exec B.bytes B.returns (Or.inr ⟨_, rfl⟩) (Or.inr ⟨_, rfl⟩) (fun t ht9 hW => ⟨⟨some q, ((q, n, f), μ1), rfl, ⟨rfl, hf, hq⟩, by show va_P D CL (MR ad cI μ1) t.heap; rw [ht9]; exact fun k q hk => hw.1 k q (by rw [List.getElem?_append_left (List.getElem?_eq_some_iff.mp hk).1]; exact hk), by rw [ht9]; exact hw.n hj⟩, hw.2.2.1.F ht9⟩) hw.2.2.1.2.2 hdg hlocks)) (lv_entry as hsl)
theorem S_meti {l : Launch} {y : MethodName} {bytes : ByteArray} {maxL : Nat} {ty : FieldType} {h fc fn : Nat} {as : List Value} {D : va_G} {cI cL : ClassId} {sz : Nat} {L0 : va_W} {Q : Int32 → Prop} (hy : plainName y.cls = true) (hsl : (lg_sl as).length ≤ maxL)
    (body : ∀ (p : Program) (e : Env) (s : State) (m : MethodId) (below : List Frame) (meth : Method) (c : Code) (Z : State → Prop) (ls : Array Slot), p.tables.exec = Jvm.exec → c.code = bytes → c.maxLocals = maxL → s.vm.findClass y.cls = some m.cls → (∀ w ∈ W0, w.before as.toArray s = true) → MK D cI cL s → va_P D CL L0 s.heap → MW D [] [] (SA s.heap.size) s s.heap [] → (∀ (H : Heap) (locs : List Loc) (ls : Array Slot) (pc cells slots : Nat) (N : va_W) (v : Int32) , MW D [] N (SA s.heap.size) s H locs → Q v → narrow ty (.int v) = .int v → cells ≤ fc → slots ≤ fn → decode bytes pc = .ok (.ireturn, 1) → W p l e (RA h fc fn) s m as.toArray below meth c H locs cells slots Z (F0 m pc ls [.int v])) → lv_has ls maxL (lv_args 0 as) →
      W p l e (RA h fc fn) s m as.toArray below meth c s.heap [] 0 0 Z (F0 m 0 ls [])) : SMi l y (.code y bytes maxL (some ty)) h fc fn as D cI cL sz L0 Q := by
  refine Met.ofW (cc := bytes) (maxL := maxL) (ret := (some ty)) hy rfl ?_
  intro p e s m args below meth c s₁ B hml hv
  obtain ⟨rfl, hsz, hP0, hK⟩ := hv
  subst hsz
  have hts := atoms_spec B.pre
  have hlocks := B.notSynchronized
  rw [lg_entry_eq]
  exact body p e s m below meth c _ _ B.exec B.bytes hml (findClass_of_methodNamed B.named) (fun w hw => hts w (List.mem_cons_of_mem _ hw)) hK hP0 ⟨va_P0, ⟨fun i j x y hx => by simp at hx, fun k x hx => by simp at hx⟩, va_S.rf, fun q h => h⟩ (fun H locs ls pc cells slots N v hw hq hn hc hs hdg => W.widen hc hs (W.zret B.exec B.bytes B.returns hn (fun t ht9 hW => ⟨⟨v, (), rfl, hq, trivial⟩, hw.2.2.1.F ht9⟩) hw.2.2.1.2.2 hdg hlocks)) (lv_entry as hsl)
theorem S_metl {l : Launch} {y : MethodName} {bytes : ByteArray} {maxL : Nat} {h fc fn : Nat} {as : List Value} {D : va_G} {cI cL : ClassId} {sz : Nat} {L0 : va_W} {Q : Int64 → Prop} (hy : plainName y.cls = true) (hsl : (lg_sl as).length ≤ maxL)
    (body : ∀ (p : Program) (e : Env) (s : State) (m : MethodId) (below : List Frame) (meth : Method) (c : Code) (Z : State → Prop) (ls : Array Slot), p.tables.exec = Jvm.exec → c.code = bytes → c.maxLocals = maxL → s.vm.findClass y.cls = some m.cls → (∀ w ∈ W0, w.before as.toArray s = true) → MK D cI cL s → va_P D CL L0 s.heap → MW D [] [] (SA s.heap.size) s s.heap [] → (∀ (H : Heap) (locs : List Loc) (ls : Array Slot) (pc cells slots : Nat) (N : va_W) (v : Int64) , MW D [] N (SA s.heap.size) s H locs → Q v → cells ≤ fc → slots ≤ fn → decode bytes pc = .ok (.lreturn, 1) → W p l e (RA h fc fn) s m as.toArray below meth c H locs cells slots Z (F0 m pc ls [.long v])) → lv_has ls maxL (lv_args 0 as) →
      W p l e (RA h fc fn) s m as.toArray below meth c s.heap [] 0 0 Z (F0 m 0 ls [])) : SMl l y (.code y bytes maxL (some .long)) h fc fn as D cI cL sz L0 Q := by
  refine Met.ofW (cc := bytes) (maxL := maxL) (ret := (some .long)) hy rfl ?_
  intro p e s m args below meth c s₁ B hml hv
  obtain ⟨rfl, hsz, hP0, hK⟩ := hv
  subst hsz
  have hts := atoms_spec B.pre
  have hlocks := B.notSynchronized
  rw [lg_entry_eq]
  exact body p e s m below meth c _ _ B.exec B.bytes hml (findClass_of_methodNamed B.named) (fun w hw => hts w (List.mem_cons_of_mem _ hw)) hK hP0 ⟨va_P0, ⟨fun i j x y hx => by simp at hx, fun k x hx => by simp at hx⟩, va_S.rf, fun q h => h⟩ (fun H locs ls pc cells slots N v hw hq hc hs hdg => W.widen hc hs (W.lret B.exec B.bytes B.returns (fun t ht9 hW => ⟨⟨v, (), rfl, hq, trivial⟩, hw.2.2.1.F ht9⟩) hw.2.2.1.2.2 hdg hlocks)) (lv_entry as hsl)
theorem S_metv {l : Launch} {y : MethodName} {bytes : ByteArray} {maxL : Nat} {h fc fn : Nat} {as : List Value} {D : va_G} {cI cL : ClassId} {sz : Nat} {L0 : va_W} {Q : Prop} (hy : plainName y.cls = true) (hsl : (lg_sl as).length ≤ maxL)
    (body : ∀ (p : Program) (e : Env) (s : State) (m : MethodId) (below : List Frame) (meth : Method) (c : Code) (Z : State → Prop) (ls : Array Slot), p.tables.exec = Jvm.exec → c.code = bytes → c.maxLocals = maxL → s.vm.findClass y.cls = some m.cls → (∀ w ∈ W0, w.before as.toArray s = true) → MK D cI cL s → va_P D CL L0 s.heap → MW D [] [] (SA s.heap.size) s s.heap [] → (∀ (H : Heap) (locs : List Loc) (ls : Array Slot) (pc cells slots : Nat) (N : va_W) , MW D [] N (SA s.heap.size) s H locs → Q → cells ≤ fc → slots ≤ fn → decode bytes pc = .ok (.return_, 1) → W p l e (RA h fc fn) s m as.toArray below meth c H locs cells slots Z (F0 m pc ls [])) → lv_has ls maxL (lv_args 0 as) →
      W p l e (RA h fc fn) s m as.toArray below meth c s.heap [] 0 0 Z (F0 m 0 ls [])) : SMv l y (.code y bytes maxL none) h fc fn as D cI cL sz L0 Q := by
  refine Met.ofW (cc := bytes) (maxL := maxL) (ret := none) hy rfl ?_
  intro p e s m args below meth c s₁ B hml hv
  obtain ⟨rfl, hsz, hP0, hK⟩ := hv
  subst hsz
  have hts := atoms_spec B.pre
  have hlocks := B.notSynchronized
  rw [lg_entry_eq]
  exact body p e s m below meth c _ _ B.exec B.bytes hml (findClass_of_methodNamed B.named) (fun w hw => hts w (List.mem_cons_of_mem _ hw)) hK hP0 ⟨va_P0, ⟨fun i j x y hx => by simp at hx, fun k x hx => by simp at hx⟩, va_S.rf, fun q h => h⟩ (fun H locs ls pc cells slots N hw hq hc hs hdg => W.widen hc hs (W.vret B.exec B.bytes B.returns (fun t ht9 hW => ⟨⟨(), rfl, hq, trivial⟩, hw.2.2.1.F ht9⟩) hw.2.2.1.2.2 hdg hlocks)) (lv_entry as hsl)
theorem S_metA {l : Launch} {y : MethodName} {bytes : ByteArray} {maxL : Nat} {h fc fn : Nat} {as : List Value} {D : va_G} {cI cL : ClassId} {sz : Nat} {L0 : va_W} {Q : Option AI → Prop} (hy : plainName y.cls = true) (hsl : (lg_sl as).length ≤ maxL)
    (body : ∀ (p : Program) (e : Env) (s : State) (m : MethodId) (below : List Frame) (meth : Method) (c : Code) (Z : State → Prop) (ls : Array Slot), p.tables.exec = Jvm.exec → c.code = bytes → c.maxLocals = maxL → s.vm.findClass y.cls = some m.cls → (∀ w ∈ W0, w.before as.toArray s = true) → MK D cI cL s → va_P D CL L0 s.heap → MW D [] [] (SA s.heap.size) s s.heap [] → (∀ (H : Heap) (locs : List Loc) (ls : Array Slot) (pc cells slots : Nat) (N : va_W) (j q n : Nat) (f : Nat → Int32) , MW D [] N (SA s.heap.size) s H locs → N[j]? = some (eI cI q n f) → s.heap.size ≤ q → Q (some (n, f)) → cells ≤ fc → slots ≤ fn → decode bytes pc = .ok (.areturn, 1) → W p l e (RA h fc fn) s m as.toArray below meth c H locs cells slots Z (F0 m pc ls [.ref q])) → (∀ (H : Heap) (locs : List Loc) (ls : Array Slot) (pc cells slots : Nat) (N : va_W) , MW D [] N (SA s.heap.size) s H locs → Q none → cells ≤ fc → slots ≤ fn → decode bytes pc = .ok (.areturn, 1) → W p l e (RA h fc fn) s m as.toArray below meth c H locs cells slots Z (F0 m pc ls [.null])) → lv_has ls maxL (lv_args 0 as) →
      W p l e (RA h fc fn) s m as.toArray below meth c s.heap [] 0 0 Z (F0 m 0 ls [])) : SMA l y (.code y bytes maxL (some (.array .int))) h fc fn as D cI cL sz L0 Q := by
  refine Met.ofW (cc := bytes) (maxL := maxL) (ret := (some (.array .int))) hy rfl ?_
  intro p e s m args below meth c s₁ B hml hv
  obtain ⟨rfl, hsz, hP0, hK⟩ := hv
  subst hsz
  have hts := atoms_spec B.pre
  have hlocks := B.notSynchronized
  rw [lg_entry_eq]
  exact body p e s m below meth c _ _ B.exec B.bytes hml (findClass_of_methodNamed B.named) (fun w hw => hts w (List.mem_cons_of_mem _ hw)) hK hP0 ⟨va_P0, ⟨fun i j x y hx => by simp at hx, fun k x hx => by simp at hx⟩, va_S.rf, fun q h => h⟩ (fun H locs ls pc cells slots N j q n f hw hj hf hq hc hs hdg => W.widen hc hs (W.aret B.exec B.bytes B.returns (Or.inr ⟨_, rfl⟩) (Or.inr ⟨_, rfl⟩) (fun t ht9 hW => ⟨⟨some q, (some (q, n, f), (fun _ _ => 0)), rfl, ⟨rfl, (fun x hx => by cases hx; exact hf), hq⟩, trivial, (fun x hx => by cases hx; rw [ht9]; exact hw.n hj)⟩, hw.2.2.1.F ht9⟩) hw.2.2.1.2.2 hdg hlocks)) (fun H locs ls pc cells slots N hw hq hc hs hdg => W.widen hc hs (W.aret B.exec B.bytes B.returns (Or.inr ⟨_, rfl⟩) (Or.inl rfl) (fun t ht9 hW => ⟨⟨none, (none, (fun _ _ => 0)), rfl, ⟨rfl, (fun x hx => nomatch hx), hq⟩, trivial, (fun x hx => nomatch hx)⟩, hw.2.2.1.F ht9⟩) hw.2.2.1.2.2 hdg hlocks)) (lv_entry as hsl)
theorem S_metL {l : Launch} {y : MethodName} {bytes : ByteArray} {maxL : Nat} {h fc fn : Nat} {as : List Value} {D : va_G} {cI cL : ClassId} {sz : Nat} {L0 : va_W} {Q : AL → Prop} (hy : plainName y.cls = true) (hsl : (lg_sl as).length ≤ maxL)
    (body : ∀ (p : Program) (e : Env) (s : State) (m : MethodId) (below : List Frame) (meth : Method) (c : Code) (Z : State → Prop) (ls : Array Slot), p.tables.exec = Jvm.exec → c.code = bytes → c.maxLocals = maxL → s.vm.findClass y.cls = some m.cls → (∀ w ∈ W0, w.before as.toArray s = true) → MK D cI cL s → va_P D CL L0 s.heap → MW D [] [] (SA s.heap.size) s s.heap [] → (∀ (H : Heap) (locs : List Loc) (ls : Array Slot) (pc cells slots : Nat) (N : va_W) (j q n : Nat) (f : Nat → Int64) , MW D [] N (SA s.heap.size) s H locs → N[j]? = some (eL cL q n f) → s.heap.size ≤ q → Q (n, f) → cells ≤ fc → slots ≤ fn → decode bytes pc = .ok (.areturn, 1) → W p l e (RA h fc fn) s m as.toArray below meth c H locs cells slots Z (F0 m pc ls [.ref q])) → lv_has ls maxL (lv_args 0 as) →
      W p l e (RA h fc fn) s m as.toArray below meth c s.heap [] 0 0 Z (F0 m 0 ls [])) : SML l y (.code y bytes maxL (some (.array .long))) h fc fn as D cI cL sz L0 Q := by
  refine Met.ofW (cc := bytes) (maxL := maxL) (ret := (some (.array .long))) hy rfl ?_
  intro p e s m args below meth c s₁ B hml hv
  obtain ⟨rfl, hsz, hP0, hK⟩ := hv
  subst hsz
  have hts := atoms_spec B.pre
  have hlocks := B.notSynchronized
  rw [lg_entry_eq]
  exact body p e s m below meth c _ _ B.exec B.bytes hml (findClass_of_methodNamed B.named) (fun w hw => hts w (List.mem_cons_of_mem _ hw)) hK hP0 ⟨va_P0, ⟨fun i j x y hx => by simp at hx, fun k x hx => by simp at hx⟩, va_S.rf, fun q h => h⟩ (fun H locs ls pc cells slots N j q n f hw hj hf hq hc hs hdg => W.widen hc hs (W.aret B.exec B.bytes B.returns (Or.inr ⟨_, rfl⟩) (Or.inr ⟨_, rfl⟩) (fun t ht9 hW => ⟨⟨some q, ((q, n, f), (fun _ _ => 0)), rfl, ⟨rfl, hf, hq⟩, trivial, by rw [ht9]; exact hw.n hj⟩, hw.2.2.1.F ht9⟩) hw.2.2.1.2.2 hdg hlocks)) (lv_entry as hsl)
end MLB
end
/-! part 61.dec3 -/
section
set_option maxRecDepth 100000 in
theorem db_cX11_thrown_dX11_thrown_0_0 : (decode cX11_thrown 0 = .ok (.aload_n 0, 1)) ∧ (decode cX11_thrown 1 = .ok (.getfield 22, 3)) ∧ (decode cX11_thrown 4 = .ok (.ireturn, 1)) := by decide +kernel
def dX11_thrown_0 := db_cX11_thrown_dX11_thrown_0_0.1
def dX11_thrown_1 := db_cX11_thrown_dX11_thrown_0_0.2.1
def dX11_thrown_4 := db_cX11_thrown_dX11_thrown_0_0.2.2
set_option maxRecDepth 100000 in
theorem db_cX11_isIn_dX11_isIn_0_0 : (decode cX11_isIn 0 = .ok (.iload_n 0, 1)) ∧ (decode cX11_isIn 1 = .ok (.iload_n 1, 1)) ∧ (decode cX11_isIn 2 = .ok (.if_icmp .lt 12, 3)) ∧ (decode cX11_isIn 5 = .ok (.iload_n 0, 1)) ∧ (decode cX11_isIn 6 = .ok (.iload_n 2, 1)) ∧ (decode cX11_isIn 7 = .ok (.if_icmp .gt 7, 3)) ∧ (decode cX11_isIn 10 = .ok (.iconst 1, 1)) ∧ (decode cX11_isIn 11 = .ok (.goto 4, 3)) ∧ (decode cX11_isIn 14 = .ok (.iconst 0, 1)) ∧ (decode cX11_isIn 15 = .ok (.ireturn, 1)) := by decide +kernel
def dX11_isIn_0 := db_cX11_isIn_dX11_isIn_0_0.1
def dX11_isIn_1 := db_cX11_isIn_dX11_isIn_0_0.2.1
def dX11_isIn_2 := db_cX11_isIn_dX11_isIn_0_0.2.2.1
def dX11_isIn_5 := db_cX11_isIn_dX11_isIn_0_0.2.2.2.1
def dX11_isIn_6 := db_cX11_isIn_dX11_isIn_0_0.2.2.2.2.1
def dX11_isIn_7 := db_cX11_isIn_dX11_isIn_0_0.2.2.2.2.2.1
def dX11_isIn_10 := db_cX11_isIn_dX11_isIn_0_0.2.2.2.2.2.2.1
def dX11_isIn_11 := db_cX11_isIn_dX11_isIn_0_0.2.2.2.2.2.2.2.1
def dX11_isIn_14 := db_cX11_isIn_dX11_isIn_0_0.2.2.2.2.2.2.2.2.1
def dX11_isIn_15 := db_cX11_isIn_dX11_isIn_0_0.2.2.2.2.2.2.2.2.2
set_option maxRecDepth 100000 in
theorem db_cX11_isOne_dX11_isOne_0_0 : (decode cX11_isOne 0 = .ok (.iload_n 0, 1)) ∧ (decode cX11_isOne 1 = .ok (.iconst 0, 1)) ∧ (decode cX11_isOne 2 = .ok (.iconst 3, 1)) ∧ (decode cX11_isOne 3 = .ok (.invokestatic 26, 3)) ∧ (decode cX11_isOne 6 = .ok (.ireturn, 1)) := by decide +kernel
def dX11_isOne_0 := db_cX11_isOne_dX11_isOne_0_0.1
def dX11_isOne_1 := db_cX11_isOne_dX11_isOne_0_0.2.1
def dX11_isOne_2 := db_cX11_isOne_dX11_isOne_0_0.2.2.1
def dX11_isOne_3 := db_cX11_isOne_dX11_isOne_0_0.2.2.2.1
def dX11_isOne_6 := db_cX11_isOne_dX11_isOne_0_0.2.2.2.2
set_option maxRecDepth 100000 in
theorem db_cX11_isThrown_dX11_isThrown_0_0 : (decode cX11_isThrown 0 = .ok (.aload_n 0, 1)) ∧ (decode cX11_isThrown 1 = .ok (.iload_n 1, 1)) ∧ (decode cX11_isThrown 2 = .ok (.ifCond .ne 7, 3)) ∧ (decode cX11_isThrown 5 = .ok (.iconst 1, 1)) ∧ (decode cX11_isThrown 6 = .ok (.goto 12, 3)) ∧ (decode cX11_isThrown 9 = .ok (.iload_n 2, 1)) ∧ (decode cX11_isThrown 10 = .ok (.ifCond .ne 7, 3)) ∧ (decode cX11_isThrown 13 = .ok (.iconst 2, 1)) ∧ (decode cX11_isThrown 14 = .ok (.goto 4, 3)) ∧ (decode cX11_isThrown 17 = .ok (.iconst 0, 1)) ∧ (decode cX11_isThrown 18 = .ok (.putfield 22, 3)) ∧ (decode cX11_isThrown 21 = .ok (.aload_n 0, 1)) := by decide +kernel
def dX11_isThrown_0 := db_cX11_isThrown_dX11_isThrown_0_0.1
def dX11_isThrown_1 := db_cX11_isThrown_dX11_isThrown_0_0.2.1
def dX11_isThrown_2 := db_cX11_isThrown_dX11_isThrown_0_0.2.2.1
def dX11_isThrown_5 := db_cX11_isThrown_dX11_isThrown_0_0.2.2.2.1
def dX11_isThrown_6 := db_cX11_isThrown_dX11_isThrown_0_0.2.2.2.2.1
def dX11_isThrown_9 := db_cX11_isThrown_dX11_isThrown_0_0.2.2.2.2.2.1
def dX11_isThrown_10 := db_cX11_isThrown_dX11_isThrown_0_0.2.2.2.2.2.2.1
def dX11_isThrown_13 := db_cX11_isThrown_dX11_isThrown_0_0.2.2.2.2.2.2.2.1
def dX11_isThrown_14 := db_cX11_isThrown_dX11_isThrown_0_0.2.2.2.2.2.2.2.2.1
def dX11_isThrown_17 := db_cX11_isThrown_dX11_isThrown_0_0.2.2.2.2.2.2.2.2.2.1
def dX11_isThrown_18 := db_cX11_isThrown_dX11_isThrown_0_0.2.2.2.2.2.2.2.2.2.2.1
def dX11_isThrown_21 := db_cX11_isThrown_dX11_isThrown_0_0.2.2.2.2.2.2.2.2.2.2.2
set_option maxRecDepth 100000 in
theorem db_cX11_isThrown_dX11_isThrown_22_1 : (decode cX11_isThrown 22 = .ok (.getfield 22, 3)) ∧ (decode cX11_isThrown 25 = .ok (.ifCond .le 7, 3)) ∧ (decode cX11_isThrown 28 = .ok (.iconst 1, 1)) ∧ (decode cX11_isThrown 29 = .ok (.goto 4, 3)) ∧ (decode cX11_isThrown 32 = .ok (.iconst 0, 1)) ∧ (decode cX11_isThrown 33 = .ok (.ireturn, 1)) := by decide +kernel
def dX11_isThrown_22 := db_cX11_isThrown_dX11_isThrown_22_1.1
def dX11_isThrown_25 := db_cX11_isThrown_dX11_isThrown_22_1.2.1
def dX11_isThrown_28 := db_cX11_isThrown_dX11_isThrown_22_1.2.2.1
def dX11_isThrown_29 := db_cX11_isThrown_dX11_isThrown_22_1.2.2.2.1
def dX11_isThrown_32 := db_cX11_isThrown_dX11_isThrown_22_1.2.2.2.2.1
def dX11_isThrown_33 := db_cX11_isThrown_dX11_isThrown_22_1.2.2.2.2.2
set_option maxRecDepth 100000 in
theorem db_cX11_isCrowded_dX11_isCrowded_0_0 : (decode cX11_isCrowded 0 = .ok (.aload_n 0, 1)) ∧ (decode cX11_isCrowded 1 = .ok (.aload_n 1, 1)) ∧ (decode cX11_isCrowded 2 = .ok (.ifnonnull 7, 3)) ∧ (decode cX11_isCrowded 5 = .ok (.iload_n 2, 1)) ∧ (decode cX11_isCrowded 6 = .ok (.goto 4, 3)) ∧ (decode cX11_isCrowded 9 = .ok (.iconst 0, 1)) ∧ (decode cX11_isCrowded 10 = .ok (.putfield 22, 3)) ∧ (decode cX11_isCrowded 13 = .ok (.aload_n 1, 1)) ∧ (decode cX11_isCrowded 14 = .ok (.ifnonnull 7, 3)) ∧ (decode cX11_isCrowded 17 = .ok (.iconst 1, 1)) ∧ (decode cX11_isCrowded 18 = .ok (.goto 4, 3)) ∧ (decode cX11_isCrowded 21 = .ok (.iconst 0, 1)) := by decide +kernel
def dX11_isCrowded_0 := db_cX11_isCrowded_dX11_isCrowded_0_0.1
def dX11_isCrowded_1 := db_cX11_isCrowded_dX11_isCrowded_0_0.2.1
def dX11_isCrowded_2 := db_cX11_isCrowded_dX11_isCrowded_0_0.2.2.1
def dX11_isCrowded_5 := db_cX11_isCrowded_dX11_isCrowded_0_0.2.2.2.1
def dX11_isCrowded_6 := db_cX11_isCrowded_dX11_isCrowded_0_0.2.2.2.2.1
def dX11_isCrowded_9 := db_cX11_isCrowded_dX11_isCrowded_0_0.2.2.2.2.2.1
def dX11_isCrowded_10 := db_cX11_isCrowded_dX11_isCrowded_0_0.2.2.2.2.2.2.1
def dX11_isCrowded_13 := db_cX11_isCrowded_dX11_isCrowded_0_0.2.2.2.2.2.2.2.1
def dX11_isCrowded_14 := db_cX11_isCrowded_dX11_isCrowded_0_0.2.2.2.2.2.2.2.2.1
def dX11_isCrowded_17 := db_cX11_isCrowded_dX11_isCrowded_0_0.2.2.2.2.2.2.2.2.2.1
def dX11_isCrowded_18 := db_cX11_isCrowded_dX11_isCrowded_0_0.2.2.2.2.2.2.2.2.2.2.1
def dX11_isCrowded_21 := db_cX11_isCrowded_dX11_isCrowded_0_0.2.2.2.2.2.2.2.2.2.2.2
theorem dX11_isCrowded_22 : decode cX11_isCrowded 22 = .ok (.ireturn, 1) := by decide +kernel
set_option maxRecDepth 100000 in
theorem db_cX11_key_dX11_key_0_0 : (decode cX11_key 0 = .ok (.iload_n 0, 1)) ∧ (decode cX11_key 1 = .ok (.bipush 7, 2)) ∧ (decode cX11_key 3 = .ok (.imul, 1)) ∧ (decode cX11_key 4 = .ok (.iload_n 1, 1)) ∧ (decode cX11_key 5 = .ok (.iadd, 1)) ∧ (decode cX11_key 6 = .ok (.iconst 3, 1)) ∧ (decode cX11_key 7 = .ok (.imul, 1)) ∧ (decode cX11_key 8 = .ok (.iload_n 2, 1)) ∧ (decode cX11_key 9 = .ok (.iadd, 1)) ∧ (decode cX11_key 10 = .ok (.ireturn, 1)) := by decide +kernel
def dX11_key_0 := db_cX11_key_dX11_key_0_0.1
def dX11_key_1 := db_cX11_key_dX11_key_0_0.2.1
def dX11_key_3 := db_cX11_key_dX11_key_0_0.2.2.1
def dX11_key_4 := db_cX11_key_dX11_key_0_0.2.2.2.1
def dX11_key_5 := db_cX11_key_dX11_key_0_0.2.2.2.2.1
def dX11_key_6 := db_cX11_key_dX11_key_0_0.2.2.2.2.2.1
def dX11_key_7 := db_cX11_key_dX11_key_0_0.2.2.2.2.2.2.1
def dX11_key_8 := db_cX11_key_dX11_key_0_0.2.2.2.2.2.2.2.1
def dX11_key_9 := db_cX11_key_dX11_key_0_0.2.2.2.2.2.2.2.2.1
def dX11_key_10 := db_cX11_key_dX11_key_0_0.2.2.2.2.2.2.2.2.2
set_option maxRecDepth 100000 in
theorem db_cX11_isState_dX11_isState_0_0 : (decode cX11_isState 0 = .ok (.iload_n 2, 1)) ∧ (decode cX11_isState 1 = .ok (.iconst 0, 1)) ∧ (decode cX11_isState 2 = .ok (.aload_n 0, 1)) ∧ (decode cX11_isState 3 = .ok (.getfield 7, 3)) ∧ (decode cX11_isState 6 = .ok (.iload_n 1, 1)) ∧ (decode cX11_isState 7 = .ok (.iaload, 1)) ∧ (decode cX11_isState 8 = .ok (.iconst 1, 1)) ∧ (decode cX11_isState 9 = .ok (.isub, 1)) ∧ (decode cX11_isState 10 = .ok (.invokestatic 26, 3)) ∧ (decode cX11_isState 13 = .ok (.ireturn, 1)) := by decide +kernel
def dX11_isState_0 := db_cX11_isState_dX11_isState_0_0.1
def dX11_isState_1 := db_cX11_isState_dX11_isState_0_0.2.1
def dX11_isState_2 := db_cX11_isState_dX11_isState_0_0.2.2.1
def dX11_isState_3 := db_cX11_isState_dX11_isState_0_0.2.2.2.1
def dX11_isState_6 := db_cX11_isState_dX11_isState_0_0.2.2.2.2.1
def dX11_isState_7 := db_cX11_isState_dX11_isState_0_0.2.2.2.2.2.1
def dX11_isState_8 := db_cX11_isState_dX11_isState_0_0.2.2.2.2.2.2.1
def dX11_isState_9 := db_cX11_isState_dX11_isState_0_0.2.2.2.2.2.2.2.1
def dX11_isState_10 := db_cX11_isState_dX11_isState_0_0.2.2.2.2.2.2.2.2.1
def dX11_isState_13 := db_cX11_isState_dX11_isState_0_0.2.2.2.2.2.2.2.2.2
set_option maxRecDepth 100000 in
theorem db_cX11_did_dX11_did_0_0 : (decode cX11_did 0 = .ok (.aload_n 0, 1)) ∧ (decode cX11_did 1 = .ok (.dup, 1)) ∧ (decode cX11_did 2 = .ok (.getfield 30, 3)) ∧ (decode cX11_did 5 = .ok (.iconst 1, 1)) ∧ (decode cX11_did 6 = .ok (.iadd, 1)) ∧ (decode cX11_did 7 = .ok (.putfield 30, 3)) ∧ (decode cX11_did 10 = .ok (.iload_n 1, 1)) ∧ (decode cX11_did 11 = .ok (.ireturn, 1)) := by decide +kernel
def dX11_did_0 := db_cX11_did_dX11_did_0_0.1
def dX11_did_1 := db_cX11_did_dX11_did_0_0.2.1
def dX11_did_2 := db_cX11_did_dX11_did_0_0.2.2.1
def dX11_did_5 := db_cX11_did_dX11_did_0_0.2.2.2.1
def dX11_did_6 := db_cX11_did_dX11_did_0_0.2.2.2.2.1
def dX11_did_7 := db_cX11_did_dX11_did_0_0.2.2.2.2.2.1
def dX11_did_10 := db_cX11_did_dX11_did_0_0.2.2.2.2.2.2.1
def dX11_did_11 := db_cX11_did_dX11_did_0_0.2.2.2.2.2.2.2
set_option maxRecDepth 100000 in
theorem db_cX11_refuse_dX11_refuse_0_0 : (decode cX11_refuse 0 = .ok (.aload_n 0, 1)) ∧ (decode cX11_refuse 1 = .ok (.dup, 1)) ∧ (decode cX11_refuse 2 = .ok (.getfield 33, 3)) ∧ (decode cX11_refuse 5 = .ok (.iconst 1, 1)) ∧ (decode cX11_refuse 6 = .ok (.iadd, 1)) ∧ (decode cX11_refuse 7 = .ok (.putfield 33, 3)) ∧ (decode cX11_refuse 10 = .ok (.bipush (-9), 2)) ∧ (decode cX11_refuse 12 = .ok (.ireturn, 1)) := by decide +kernel
def dX11_refuse_0 := db_cX11_refuse_dX11_refuse_0_0.1
def dX11_refuse_1 := db_cX11_refuse_dX11_refuse_0_0.2.1
def dX11_refuse_2 := db_cX11_refuse_dX11_refuse_0_0.2.2.1
def dX11_refuse_5 := db_cX11_refuse_dX11_refuse_0_0.2.2.2.1
def dX11_refuse_6 := db_cX11_refuse_dX11_refuse_0_0.2.2.2.2.1
def dX11_refuse_7 := db_cX11_refuse_dX11_refuse_0_0.2.2.2.2.2.1
def dX11_refuse_10 := db_cX11_refuse_dX11_refuse_0_0.2.2.2.2.2.2.1
def dX11_refuse_12 := db_cX11_refuse_dX11_refuse_0_0.2.2.2.2.2.2.2
set_option maxRecDepth 100000 in
theorem db_cX11_arrowsOf_dX11_arrowsOf_0_0 : (decode cX11_arrowsOf 0 = .ok (.iconst 0, 1)) ∧ (decode cX11_arrowsOf 1 = .ok (.istore_n 2, 1)) ∧ (decode cX11_arrowsOf 2 = .ok (.iload_n 1, 1)) ∧ (decode cX11_arrowsOf 3 = .ok (.iconst 0, 1)) ∧ (decode cX11_arrowsOf 4 = .ok (.iconst 0, 1)) ∧ (decode cX11_arrowsOf 5 = .ok (.invokestatic 36, 3)) ∧ (decode cX11_arrowsOf 8 = .ok (.istore_n 3, 1)) ∧ (decode cX11_arrowsOf 9 = .ok (.iload_n 3, 1)) ∧ (decode cX11_arrowsOf 10 = .ok (.iload_n 1, 1)) ∧ (decode cX11_arrowsOf 11 = .ok (.iconst 0, 1)) ∧ (decode cX11_arrowsOf 12 = .ok (.iconst 0, 1)) ∧ (decode cX11_arrowsOf 13 = .ok (.invokestatic 36, 3)) := by decide +kernel
def dX11_arrowsOf_0 := db_cX11_arrowsOf_dX11_arrowsOf_0_0.1
def dX11_arrowsOf_1 := db_cX11_arrowsOf_dX11_arrowsOf_0_0.2.1
def dX11_arrowsOf_2 := db_cX11_arrowsOf_dX11_arrowsOf_0_0.2.2.1
def dX11_arrowsOf_3 := db_cX11_arrowsOf_dX11_arrowsOf_0_0.2.2.2.1
def dX11_arrowsOf_4 := db_cX11_arrowsOf_dX11_arrowsOf_0_0.2.2.2.2.1
def dX11_arrowsOf_5 := db_cX11_arrowsOf_dX11_arrowsOf_0_0.2.2.2.2.2.1
def dX11_arrowsOf_8 := db_cX11_arrowsOf_dX11_arrowsOf_0_0.2.2.2.2.2.2.1
def dX11_arrowsOf_9 := db_cX11_arrowsOf_dX11_arrowsOf_0_0.2.2.2.2.2.2.2.1
def dX11_arrowsOf_10 := db_cX11_arrowsOf_dX11_arrowsOf_0_0.2.2.2.2.2.2.2.2.1
def dX11_arrowsOf_11 := db_cX11_arrowsOf_dX11_arrowsOf_0_0.2.2.2.2.2.2.2.2.2.1
def dX11_arrowsOf_12 := db_cX11_arrowsOf_dX11_arrowsOf_0_0.2.2.2.2.2.2.2.2.2.2.1
def dX11_arrowsOf_13 := db_cX11_arrowsOf_dX11_arrowsOf_0_0.2.2.2.2.2.2.2.2.2.2.2
set_option maxRecDepth 100000 in
theorem db_cX11_arrowsOf_dX11_arrowsOf_16_1 : (decode cX11_arrowsOf 16 = .ok (.bipush 21, 2)) ∧ (decode cX11_arrowsOf 18 = .ok (.iadd, 1)) ∧ (decode cX11_arrowsOf 19 = .ok (.if_icmp .ge 21, 3)) ∧ (decode cX11_arrowsOf 22 = .ok (.iload_n 2, 1)) ∧ (decode cX11_arrowsOf 23 = .ok (.aload_n 0, 1)) ∧ (decode cX11_arrowsOf 24 = .ok (.getfield 19, 3)) ∧ (decode cX11_arrowsOf 27 = .ok (.iload_n 3, 1)) ∧ (decode cX11_arrowsOf 28 = .ok (.iaload, 1)) ∧ (decode cX11_arrowsOf 29 = .ok (.invokestatic 40, 3)) ∧ (decode cX11_arrowsOf 32 = .ok (.iadd, 1)) ∧ (decode cX11_arrowsOf 33 = .ok (.istore_n 2, 1)) ∧ (decode cX11_arrowsOf 34 = .ok (.iinc 3 1, 3)) := by decide +kernel
def dX11_arrowsOf_16 := db_cX11_arrowsOf_dX11_arrowsOf_16_1.1
def dX11_arrowsOf_18 := db_cX11_arrowsOf_dX11_arrowsOf_16_1.2.1
def dX11_arrowsOf_19 := db_cX11_arrowsOf_dX11_arrowsOf_16_1.2.2.1
def dX11_arrowsOf_22 := db_cX11_arrowsOf_dX11_arrowsOf_16_1.2.2.2.1
def dX11_arrowsOf_23 := db_cX11_arrowsOf_dX11_arrowsOf_16_1.2.2.2.2.1
def dX11_arrowsOf_24 := db_cX11_arrowsOf_dX11_arrowsOf_16_1.2.2.2.2.2.1
def dX11_arrowsOf_27 := db_cX11_arrowsOf_dX11_arrowsOf_16_1.2.2.2.2.2.2.1
def dX11_arrowsOf_28 := db_cX11_arrowsOf_dX11_arrowsOf_16_1.2.2.2.2.2.2.2.1
def dX11_arrowsOf_29 := db_cX11_arrowsOf_dX11_arrowsOf_16_1.2.2.2.2.2.2.2.2.1
def dX11_arrowsOf_32 := db_cX11_arrowsOf_dX11_arrowsOf_16_1.2.2.2.2.2.2.2.2.2.1
def dX11_arrowsOf_33 := db_cX11_arrowsOf_dX11_arrowsOf_16_1.2.2.2.2.2.2.2.2.2.2.1
def dX11_arrowsOf_34 := db_cX11_arrowsOf_dX11_arrowsOf_16_1.2.2.2.2.2.2.2.2.2.2.2
set_option maxRecDepth 100000 in
theorem db_cX11_arrowsOf_dX11_arrowsOf_37_2 : (decode cX11_arrowsOf 37 = .ok (.goto (-28), 3)) ∧ (decode cX11_arrowsOf 40 = .ok (.iload_n 2, 1)) ∧ (decode cX11_arrowsOf 41 = .ok (.ireturn, 1)) := by decide +kernel
def dX11_arrowsOf_37 := db_cX11_arrowsOf_dX11_arrowsOf_37_2.1
def dX11_arrowsOf_40 := db_cX11_arrowsOf_dX11_arrowsOf_37_2.2.1
def dX11_arrowsOf_41 := db_cX11_arrowsOf_dX11_arrowsOf_37_2.2.2
set_option maxRecDepth 100000 in
theorem db_cX11_isPlain_dX11_isPlain_0_0 : (decode cX11_isPlain 0 = .ok (.aload_n 0, 1)) ∧ (decode cX11_isPlain 1 = .ok (.getfield 13, 3)) ∧ (decode cX11_isPlain 4 = .ok (.iload_n 1, 1)) ∧ (decode cX11_isPlain 5 = .ok (.iaload, 1)) ∧ (decode cX11_isPlain 6 = .ok (.invokestatic 40, 3)) ∧ (decode cX11_isPlain 9 = .ok (.iconst 1, 1)) ∧ (decode cX11_isPlain 10 = .ok (.if_icmp .ne 7, 3)) ∧ (decode cX11_isPlain 13 = .ok (.iconst 1, 1)) ∧ (decode cX11_isPlain 14 = .ok (.goto 4, 3)) ∧ (decode cX11_isPlain 17 = .ok (.iconst 0, 1)) ∧ (decode cX11_isPlain 18 = .ok (.istore_n 2, 1)) ∧ (decode cX11_isPlain 19 = .ok (.iconst 0, 1)) := by decide +kernel
def dX11_isPlain_0 := db_cX11_isPlain_dX11_isPlain_0_0.1
def dX11_isPlain_1 := db_cX11_isPlain_dX11_isPlain_0_0.2.1
def dX11_isPlain_4 := db_cX11_isPlain_dX11_isPlain_0_0.2.2.1
def dX11_isPlain_5 := db_cX11_isPlain_dX11_isPlain_0_0.2.2.2.1
def dX11_isPlain_6 := db_cX11_isPlain_dX11_isPlain_0_0.2.2.2.2.1
def dX11_isPlain_9 := db_cX11_isPlain_dX11_isPlain_0_0.2.2.2.2.2.1
def dX11_isPlain_10 := db_cX11_isPlain_dX11_isPlain_0_0.2.2.2.2.2.2.1
def dX11_isPlain_13 := db_cX11_isPlain_dX11_isPlain_0_0.2.2.2.2.2.2.2.1
def dX11_isPlain_14 := db_cX11_isPlain_dX11_isPlain_0_0.2.2.2.2.2.2.2.2.1
def dX11_isPlain_17 := db_cX11_isPlain_dX11_isPlain_0_0.2.2.2.2.2.2.2.2.2.1
def dX11_isPlain_18 := db_cX11_isPlain_dX11_isPlain_0_0.2.2.2.2.2.2.2.2.2.2.1
def dX11_isPlain_19 := db_cX11_isPlain_dX11_isPlain_0_0.2.2.2.2.2.2.2.2.2.2.2
set_option maxRecDepth 100000 in
theorem db_cX11_isPlain_dX11_isPlain_20_1 : (decode cX11_isPlain 20 = .ok (.istore_n 3, 1)) ∧ (decode cX11_isPlain 21 = .ok (.iload_n 3, 1)) ∧ (decode cX11_isPlain 22 = .ok (.aload_n 0, 1)) ∧ (decode cX11_isPlain 23 = .ok (.getfield 7, 3)) ∧ (decode cX11_isPlain 26 = .ok (.iload_n 1, 1)) ∧ (decode cX11_isPlain 27 = .ok (.iaload, 1)) ∧ (decode cX11_isPlain 28 = .ok (.if_icmp .ge 51, 3)) ∧ (decode cX11_isPlain 31 = .ok (.iconst 0, 1)) ∧ (decode cX11_isPlain 32 = .ok (.istore 4, 2)) ∧ (decode cX11_isPlain 34 = .ok (.iload 4, 2)) ∧ (decode cX11_isPlain 36 = .ok (.iconst 3, 1)) ∧ (decode cX11_isPlain 37 = .ok (.if_icmp .ge 36, 3)) := by decide +kernel
def dX11_isPlain_20 := db_cX11_isPlain_dX11_isPlain_20_1.1
def dX11_isPlain_21 := db_cX11_isPlain_dX11_isPlain_20_1.2.1
def dX11_isPlain_22 := db_cX11_isPlain_dX11_isPlain_20_1.2.2.1
def dX11_isPlain_23 := db_cX11_isPlain_dX11_isPlain_20_1.2.2.2.1
def dX11_isPlain_26 := db_cX11_isPlain_dX11_isPlain_20_1.2.2.2.2.1
def dX11_isPlain_27 := db_cX11_isPlain_dX11_isPlain_20_1.2.2.2.2.2.1
def dX11_isPlain_28 := db_cX11_isPlain_dX11_isPlain_20_1.2.2.2.2.2.2.1
def dX11_isPlain_31 := db_cX11_isPlain_dX11_isPlain_20_1.2.2.2.2.2.2.2.1
def dX11_isPlain_32 := db_cX11_isPlain_dX11_isPlain_20_1.2.2.2.2.2.2.2.2.1
def dX11_isPlain_34 := db_cX11_isPlain_dX11_isPlain_20_1.2.2.2.2.2.2.2.2.2.1
def dX11_isPlain_36 := db_cX11_isPlain_dX11_isPlain_20_1.2.2.2.2.2.2.2.2.2.2.1
def dX11_isPlain_37 := db_cX11_isPlain_dX11_isPlain_20_1.2.2.2.2.2.2.2.2.2.2.2
set_option maxRecDepth 100000 in
theorem db_cX11_isPlain_dX11_isPlain_40_2 : (decode cX11_isPlain 40 = .ok (.iload_n 2, 1)) ∧ (decode cX11_isPlain 41 = .ok (.aload_n 0, 1)) ∧ (decode cX11_isPlain 42 = .ok (.getfield 19, 3)) ∧ (decode cX11_isPlain 45 = .ok (.iload_n 1, 1)) ∧ (decode cX11_isPlain 46 = .ok (.iload_n 3, 1)) ∧ (decode cX11_isPlain 47 = .ok (.iload 4, 2)) ∧ (decode cX11_isPlain 49 = .ok (.invokestatic 36, 3)) ∧ (decode cX11_isPlain 52 = .ok (.iaload, 1)) ∧ (decode cX11_isPlain 53 = .ok (.invokestatic 40, 3)) ∧ (decode cX11_isPlain 56 = .ok (.iconst 1, 1)) ∧ (decode cX11_isPlain 57 = .ok (.if_icmp .ne 7, 3)) ∧ (decode cX11_isPlain 60 = .ok (.iconst 1, 1)) := by decide +kernel
def dX11_isPlain_40 := db_cX11_isPlain_dX11_isPlain_40_2.1
def dX11_isPlain_41 := db_cX11_isPlain_dX11_isPlain_40_2.2.1
def dX11_isPlain_42 := db_cX11_isPlain_dX11_isPlain_40_2.2.2.1
def dX11_isPlain_45 := db_cX11_isPlain_dX11_isPlain_40_2.2.2.2.1
def dX11_isPlain_46 := db_cX11_isPlain_dX11_isPlain_40_2.2.2.2.2.1
def dX11_isPlain_47 := db_cX11_isPlain_dX11_isPlain_40_2.2.2.2.2.2.1
def dX11_isPlain_49 := db_cX11_isPlain_dX11_isPlain_40_2.2.2.2.2.2.2.1
def dX11_isPlain_52 := db_cX11_isPlain_dX11_isPlain_40_2.2.2.2.2.2.2.2.1
def dX11_isPlain_53 := db_cX11_isPlain_dX11_isPlain_40_2.2.2.2.2.2.2.2.2.1
def dX11_isPlain_56 := db_cX11_isPlain_dX11_isPlain_40_2.2.2.2.2.2.2.2.2.2.1
def dX11_isPlain_57 := db_cX11_isPlain_dX11_isPlain_40_2.2.2.2.2.2.2.2.2.2.2.1
def dX11_isPlain_60 := db_cX11_isPlain_dX11_isPlain_40_2.2.2.2.2.2.2.2.2.2.2.2
set_option maxRecDepth 100000 in
theorem db_cX11_isPlain_dX11_isPlain_61_3 : (decode cX11_isPlain 61 = .ok (.goto 4, 3)) ∧ (decode cX11_isPlain 64 = .ok (.iconst 0, 1)) ∧ (decode cX11_isPlain 65 = .ok (.iand, 1)) ∧ (decode cX11_isPlain 66 = .ok (.istore_n 2, 1)) ∧ (decode cX11_isPlain 67 = .ok (.iinc 4 1, 3)) ∧ (decode cX11_isPlain 70 = .ok (.goto (-36), 3)) ∧ (decode cX11_isPlain 73 = .ok (.iinc 3 1, 3)) ∧ (decode cX11_isPlain 76 = .ok (.goto (-55), 3)) ∧ (decode cX11_isPlain 79 = .ok (.iload_n 2, 1)) ∧ (decode cX11_isPlain 80 = .ok (.ireturn, 1)) := by decide +kernel
def dX11_isPlain_61 := db_cX11_isPlain_dX11_isPlain_61_3.1
def dX11_isPlain_64 := db_cX11_isPlain_dX11_isPlain_61_3.2.1
def dX11_isPlain_65 := db_cX11_isPlain_dX11_isPlain_61_3.2.2.1
def dX11_isPlain_66 := db_cX11_isPlain_dX11_isPlain_61_3.2.2.2.1
def dX11_isPlain_67 := db_cX11_isPlain_dX11_isPlain_61_3.2.2.2.2.1
def dX11_isPlain_70 := db_cX11_isPlain_dX11_isPlain_61_3.2.2.2.2.2.1
def dX11_isPlain_73 := db_cX11_isPlain_dX11_isPlain_61_3.2.2.2.2.2.2.1
def dX11_isPlain_76 := db_cX11_isPlain_dX11_isPlain_61_3.2.2.2.2.2.2.2.1
def dX11_isPlain_79 := db_cX11_isPlain_dX11_isPlain_61_3.2.2.2.2.2.2.2.2.1
def dX11_isPlain_80 := db_cX11_isPlain_dX11_isPlain_61_3.2.2.2.2.2.2.2.2.2
set_option maxRecDepth 100000 in
theorem db_cX11_next_dX11_next_0_0 : (decode cX11_next 0 = .ok (.lconst 0, 1)) ∧ (decode cX11_next 1 = .ok (.lstore 6, 2)) ∧ (decode cX11_next 3 = .ok (.iconst 0, 1)) ∧ (decode cX11_next 4 = .ok (.istore 8, 2)) ∧ (decode cX11_next 6 = .ok (.iload 8, 2)) ∧ (decode cX11_next 8 = .ok (.iload_n 1, 1)) ∧ (decode cX11_next 9 = .ok (.if_icmp .ge 95, 3)) ∧ (decode cX11_next 12 = .ok (.iconst 0, 1)) ∧ (decode cX11_next 13 = .ok (.istore 9, 2)) ∧ (decode cX11_next 15 = .ok (.iload 9, 2)) ∧ (decode cX11_next 17 = .ok (.iload_n 1, 1)) ∧ (decode cX11_next 18 = .ok (.if_icmp .ge 80, 3)) := by decide +kernel
def dX11_next_0 := db_cX11_next_dX11_next_0_0.1
def dX11_next_1 := db_cX11_next_dX11_next_0_0.2.1
def dX11_next_3 := db_cX11_next_dX11_next_0_0.2.2.1
def dX11_next_4 := db_cX11_next_dX11_next_0_0.2.2.2.1
def dX11_next_6 := db_cX11_next_dX11_next_0_0.2.2.2.2.1
def dX11_next_8 := db_cX11_next_dX11_next_0_0.2.2.2.2.2.1
def dX11_next_9 := db_cX11_next_dX11_next_0_0.2.2.2.2.2.2.1
def dX11_next_12 := db_cX11_next_dX11_next_0_0.2.2.2.2.2.2.2.1
def dX11_next_13 := db_cX11_next_dX11_next_0_0.2.2.2.2.2.2.2.2.1
def dX11_next_15 := db_cX11_next_dX11_next_0_0.2.2.2.2.2.2.2.2.2.1
def dX11_next_17 := db_cX11_next_dX11_next_0_0.2.2.2.2.2.2.2.2.2.2.1
def dX11_next_18 := db_cX11_next_dX11_next_0_0.2.2.2.2.2.2.2.2.2.2.2
set_option maxRecDepth 100000 in
theorem db_cX11_next_dX11_next_21_1 : (decode cX11_next 21 = .ok (.aload_n 0, 1)) ∧ (decode cX11_next 22 = .ok (.iconst 3, 1)) ∧ (decode cX11_next 23 = .ok (.iload 5, 2)) ∧ (decode cX11_next 25 = .ok (.ifCond .eq 8, 3)) ∧ (decode cX11_next 28 = .ok (.iload 9, 2)) ∧ (decode cX11_next 30 = .ok (.goto 5, 3)) ∧ (decode cX11_next 33 = .ok (.iload 8, 2)) ∧ (decode cX11_next 35 = .ok (.imul, 1)) ∧ (decode cX11_next 36 = .ok (.iload 4, 2)) ∧ (decode cX11_next 38 = .ok (.iadd, 1)) ∧ (decode cX11_next 39 = .ok (.laload, 1)) ∧ (decode cX11_next 40 = .ok (.iload 5, 2)) := by decide +kernel
def dX11_next_21 := db_cX11_next_dX11_next_21_1.1
def dX11_next_22 := db_cX11_next_dX11_next_21_1.2.1
def dX11_next_23 := db_cX11_next_dX11_next_21_1.2.2.1
def dX11_next_25 := db_cX11_next_dX11_next_21_1.2.2.2.1
def dX11_next_28 := db_cX11_next_dX11_next_21_1.2.2.2.2.1
def dX11_next_30 := db_cX11_next_dX11_next_21_1.2.2.2.2.2.1
def dX11_next_33 := db_cX11_next_dX11_next_21_1.2.2.2.2.2.2.1
def dX11_next_35 := db_cX11_next_dX11_next_21_1.2.2.2.2.2.2.2.1
def dX11_next_36 := db_cX11_next_dX11_next_21_1.2.2.2.2.2.2.2.2.1
def dX11_next_38 := db_cX11_next_dX11_next_21_1.2.2.2.2.2.2.2.2.2.1
def dX11_next_39 := db_cX11_next_dX11_next_21_1.2.2.2.2.2.2.2.2.2.2.1
def dX11_next_40 := db_cX11_next_dX11_next_21_1.2.2.2.2.2.2.2.2.2.2.2
set_option maxRecDepth 100000 in
theorem db_cX11_next_dX11_next_42_2 : (decode cX11_next 42 = .ok (.ifCond .eq 8, 3)) ∧ (decode cX11_next 45 = .ok (.iload 8, 2)) ∧ (decode cX11_next 47 = .ok (.goto 5, 3)) ∧ (decode cX11_next 50 = .ok (.iload 9, 2)) ∧ (decode cX11_next 52 = .ok (.lshr, 1)) ∧ (decode cX11_next 53 = .ok (.lconst 1, 1)) ∧ (decode cX11_next 54 = .ok (.land, 1)) ∧ (decode cX11_next 55 = .ok (.lconst 1, 1)) ∧ (decode cX11_next 56 = .ok (.lcmp, 1)) ∧ (decode cX11_next 57 = .ok (.ifCond .ne 7, 3)) ∧ (decode cX11_next 60 = .ok (.iconst 1, 1)) ∧ (decode cX11_next 61 = .ok (.goto 4, 3)) := by decide +kernel
def dX11_next_42 := db_cX11_next_dX11_next_42_2.1
def dX11_next_45 := db_cX11_next_dX11_next_42_2.2.1
def dX11_next_47 := db_cX11_next_dX11_next_42_2.2.2.1
def dX11_next_50 := db_cX11_next_dX11_next_42_2.2.2.2.1
def dX11_next_52 := db_cX11_next_dX11_next_42_2.2.2.2.2.1
def dX11_next_53 := db_cX11_next_dX11_next_42_2.2.2.2.2.2.1
def dX11_next_54 := db_cX11_next_dX11_next_42_2.2.2.2.2.2.2.1
def dX11_next_55 := db_cX11_next_dX11_next_42_2.2.2.2.2.2.2.2.1
def dX11_next_56 := db_cX11_next_dX11_next_42_2.2.2.2.2.2.2.2.2.1
def dX11_next_57 := db_cX11_next_dX11_next_42_2.2.2.2.2.2.2.2.2.2.1
def dX11_next_60 := db_cX11_next_dX11_next_42_2.2.2.2.2.2.2.2.2.2.2.1
def dX11_next_61 := db_cX11_next_dX11_next_42_2.2.2.2.2.2.2.2.2.2.2.2
set_option maxRecDepth 100000 in
theorem db_cX11_next_dX11_next_64_3 : (decode cX11_next 64 = .ok (.iconst 0, 1)) ∧ (decode cX11_next 65 = .ok (.istore 10, 2)) ∧ (decode cX11_next 67 = .ok (.iload 10, 2)) ∧ (decode cX11_next 69 = .ok (.ifCond .eq 23, 3)) ∧ (decode cX11_next 72 = .ok (.lload_n 2, 1)) ∧ (decode cX11_next 73 = .ok (.iload 8, 2)) ∧ (decode cX11_next 75 = .ok (.lshr, 1)) ∧ (decode cX11_next 76 = .ok (.lconst 1, 1)) ∧ (decode cX11_next 77 = .ok (.land, 1)) ∧ (decode cX11_next 78 = .ok (.lconst 1, 1)) ∧ (decode cX11_next 79 = .ok (.lcmp, 1)) ∧ (decode cX11_next 80 = .ok (.ifCond .ne 12, 3)) := by decide +kernel
def dX11_next_64 := db_cX11_next_dX11_next_64_3.1
def dX11_next_65 := db_cX11_next_dX11_next_64_3.2.1
def dX11_next_67 := db_cX11_next_dX11_next_64_3.2.2.1
def dX11_next_69 := db_cX11_next_dX11_next_64_3.2.2.2.1
def dX11_next_72 := db_cX11_next_dX11_next_64_3.2.2.2.2.1
def dX11_next_73 := db_cX11_next_dX11_next_64_3.2.2.2.2.2.1
def dX11_next_75 := db_cX11_next_dX11_next_64_3.2.2.2.2.2.2.1
def dX11_next_76 := db_cX11_next_dX11_next_64_3.2.2.2.2.2.2.2.1
def dX11_next_77 := db_cX11_next_dX11_next_64_3.2.2.2.2.2.2.2.2.1
def dX11_next_78 := db_cX11_next_dX11_next_64_3.2.2.2.2.2.2.2.2.2.1
def dX11_next_79 := db_cX11_next_dX11_next_64_3.2.2.2.2.2.2.2.2.2.2.1
def dX11_next_80 := db_cX11_next_dX11_next_64_3.2.2.2.2.2.2.2.2.2.2.2
set_option maxRecDepth 100000 in
theorem db_cX11_next_dX11_next_83_4 : (decode cX11_next 83 = .ok (.lload 6, 2)) ∧ (decode cX11_next 85 = .ok (.lconst 1, 1)) ∧ (decode cX11_next 86 = .ok (.iload 9, 2)) ∧ (decode cX11_next 88 = .ok (.lshl, 1)) ∧ (decode cX11_next 89 = .ok (.lor, 1)) ∧ (decode cX11_next 90 = .ok (.lstore 6, 2)) ∧ (decode cX11_next 92 = .ok (.iinc 9 1, 3)) ∧ (decode cX11_next 95 = .ok (.goto (-80), 3)) ∧ (decode cX11_next 98 = .ok (.iinc 8 1, 3)) ∧ (decode cX11_next 101 = .ok (.goto (-95), 3)) ∧ (decode cX11_next 104 = .ok (.lload 6, 2)) ∧ (decode cX11_next 106 = .ok (.lreturn, 1)) := by decide +kernel
def dX11_next_83 := db_cX11_next_dX11_next_83_4.1
def dX11_next_85 := db_cX11_next_dX11_next_83_4.2.1
def dX11_next_86 := db_cX11_next_dX11_next_83_4.2.2.1
def dX11_next_88 := db_cX11_next_dX11_next_83_4.2.2.2.1
def dX11_next_89 := db_cX11_next_dX11_next_83_4.2.2.2.2.1
def dX11_next_90 := db_cX11_next_dX11_next_83_4.2.2.2.2.2.1
def dX11_next_92 := db_cX11_next_dX11_next_83_4.2.2.2.2.2.2.1
def dX11_next_95 := db_cX11_next_dX11_next_83_4.2.2.2.2.2.2.2.1
def dX11_next_98 := db_cX11_next_dX11_next_83_4.2.2.2.2.2.2.2.2.1
def dX11_next_101 := db_cX11_next_dX11_next_83_4.2.2.2.2.2.2.2.2.2.1
def dX11_next_104 := db_cX11_next_dX11_next_83_4.2.2.2.2.2.2.2.2.2.2.1
def dX11_next_106 := db_cX11_next_dX11_next_83_4.2.2.2.2.2.2.2.2.2.2.2
set_option maxRecDepth 100000 in
theorem db_cX11_part_dX11_part_0_0 : (decode cX11_part 0 = .ok (.iload_n 1, 1)) ∧ (decode cX11_part 1 = .ok (.newarray .int, 2)) ∧ (decode cX11_part 3 = .ok (.astore_n 2, 1)) ∧ (decode cX11_part 4 = .ok (.iconst 0, 1)) ∧ (decode cX11_part 5 = .ok (.istore_n 3, 1)) ∧ (decode cX11_part 6 = .ok (.iload_n 3, 1)) ∧ (decode cX11_part 7 = .ok (.iload_n 1, 1)) ∧ (decode cX11_part 8 = .ok (.if_icmp .ge 15, 3)) ∧ (decode cX11_part 11 = .ok (.aload_n 2, 1)) ∧ (decode cX11_part 12 = .ok (.iload_n 3, 1)) ∧ (decode cX11_part 13 = .ok (.aload_n 0, 1)) ∧ (decode cX11_part 14 = .ok (.iload_n 3, 1)) := by decide +kernel
def dX11_part_0 := db_cX11_part_dX11_part_0_0.1
def dX11_part_1 := db_cX11_part_dX11_part_0_0.2.1
def dX11_part_3 := db_cX11_part_dX11_part_0_0.2.2.1
def dX11_part_4 := db_cX11_part_dX11_part_0_0.2.2.2.1
def dX11_part_5 := db_cX11_part_dX11_part_0_0.2.2.2.2.1
def dX11_part_6 := db_cX11_part_dX11_part_0_0.2.2.2.2.2.1
def dX11_part_7 := db_cX11_part_dX11_part_0_0.2.2.2.2.2.2.1
def dX11_part_8 := db_cX11_part_dX11_part_0_0.2.2.2.2.2.2.2.1
def dX11_part_11 := db_cX11_part_dX11_part_0_0.2.2.2.2.2.2.2.2.1
def dX11_part_12 := db_cX11_part_dX11_part_0_0.2.2.2.2.2.2.2.2.2.1
def dX11_part_13 := db_cX11_part_dX11_part_0_0.2.2.2.2.2.2.2.2.2.2.1
def dX11_part_14 := db_cX11_part_dX11_part_0_0.2.2.2.2.2.2.2.2.2.2.2
set_option maxRecDepth 100000 in
theorem db_cX11_part_dX11_part_15_1 : (decode cX11_part 15 = .ok (.iaload, 1)) ∧ (decode cX11_part 16 = .ok (.iastore, 1)) ∧ (decode cX11_part 17 = .ok (.iinc 3 1, 3)) ∧ (decode cX11_part 20 = .ok (.goto (-14), 3)) ∧ (decode cX11_part 23 = .ok (.aload_n 2, 1)) ∧ (decode cX11_part 24 = .ok (.areturn, 1)) := by decide +kernel
def dX11_part_15 := db_cX11_part_dX11_part_15_1.1
def dX11_part_16 := db_cX11_part_dX11_part_15_1.2.1
def dX11_part_17 := db_cX11_part_dX11_part_15_1.2.2.1
def dX11_part_20 := db_cX11_part_dX11_part_15_1.2.2.2.1
def dX11_part_23 := db_cX11_part_dX11_part_15_1.2.2.2.2.1
def dX11_part_24 := db_cX11_part_dX11_part_15_1.2.2.2.2.2
set_option maxRecDepth 100000 in
theorem db_cX11_oneWay_dX11_oneWay_0_0 : (decode cX11_oneWay 0 = .ok (.bipush 32, 2)) ∧ (decode cX11_oneWay 2 = .ok (.newarray .long, 2)) ∧ (decode cX11_oneWay 4 = .ok (.astore 7, 2)) ∧ (decode cX11_oneWay 6 = .ok (.sipush 128, 3)) ∧ (decode cX11_oneWay 9 = .ok (.newarray .int, 2)) ∧ (decode cX11_oneWay 11 = .ok (.astore 8, 2)) ∧ (decode cX11_oneWay 13 = .ok (.iconst 1, 1)) ∧ (decode cX11_oneWay 14 = .ok (.istore 9, 2)) ∧ (decode cX11_oneWay 16 = .ok (.aload 7, 2)) ∧ (decode cX11_oneWay 18 = .ok (.iconst 0, 1)) ∧ (decode cX11_oneWay 19 = .ok (.iload 6, 2)) ∧ (decode cX11_oneWay 21 = .ok (.ifCond .eq 8, 3)) := by decide +kernel
def dX11_oneWay_0 := db_cX11_oneWay_dX11_oneWay_0_0.1
def dX11_oneWay_2 := db_cX11_oneWay_dX11_oneWay_0_0.2.1
def dX11_oneWay_4 := db_cX11_oneWay_dX11_oneWay_0_0.2.2.1
def dX11_oneWay_6 := db_cX11_oneWay_dX11_oneWay_0_0.2.2.2.1
def dX11_oneWay_9 := db_cX11_oneWay_dX11_oneWay_0_0.2.2.2.2.1
def dX11_oneWay_11 := db_cX11_oneWay_dX11_oneWay_0_0.2.2.2.2.2.1
def dX11_oneWay_13 := db_cX11_oneWay_dX11_oneWay_0_0.2.2.2.2.2.2.1
def dX11_oneWay_14 := db_cX11_oneWay_dX11_oneWay_0_0.2.2.2.2.2.2.2.1
def dX11_oneWay_16 := db_cX11_oneWay_dX11_oneWay_0_0.2.2.2.2.2.2.2.2.1
def dX11_oneWay_18 := db_cX11_oneWay_dX11_oneWay_0_0.2.2.2.2.2.2.2.2.2.1
def dX11_oneWay_19 := db_cX11_oneWay_dX11_oneWay_0_0.2.2.2.2.2.2.2.2.2.2.1
def dX11_oneWay_21 := db_cX11_oneWay_dX11_oneWay_0_0.2.2.2.2.2.2.2.2.2.2.2
set_option maxRecDepth 100000 in
theorem db_cX11_oneWay_dX11_oneWay_24_1 : (decode cX11_oneWay 24 = .ok (.lload 4, 2)) ∧ (decode cX11_oneWay 26 = .ok (.goto 4, 3)) ∧ (decode cX11_oneWay 29 = .ok (.lload_n 2, 1)) ∧ (decode cX11_oneWay 30 = .ok (.lastore, 1)) ∧ (decode cX11_oneWay 31 = .ok (.iconst 0, 1)) ∧ (decode cX11_oneWay 32 = .ok (.istore 10, 2)) ∧ (decode cX11_oneWay 34 = .ok (.iload 10, 2)) ∧ (decode cX11_oneWay 36 = .ok (.iload 9, 2)) ∧ (decode cX11_oneWay 38 = .ok (.if_icmp .ge 141, 3)) ∧ (decode cX11_oneWay 41 = .ok (.aload 8, 2)) ∧ (decode cX11_oneWay 43 = .ok (.iconst 4, 1)) ∧ (decode cX11_oneWay 44 = .ok (.iload 10, 2)) := by decide +kernel
def dX11_oneWay_24 := db_cX11_oneWay_dX11_oneWay_24_1.1
def dX11_oneWay_26 := db_cX11_oneWay_dX11_oneWay_24_1.2.1
def dX11_oneWay_29 := db_cX11_oneWay_dX11_oneWay_24_1.2.2.1
def dX11_oneWay_30 := db_cX11_oneWay_dX11_oneWay_24_1.2.2.2.1
def dX11_oneWay_31 := db_cX11_oneWay_dX11_oneWay_24_1.2.2.2.2.1
def dX11_oneWay_32 := db_cX11_oneWay_dX11_oneWay_24_1.2.2.2.2.2.1
def dX11_oneWay_34 := db_cX11_oneWay_dX11_oneWay_24_1.2.2.2.2.2.2.1
def dX11_oneWay_36 := db_cX11_oneWay_dX11_oneWay_24_1.2.2.2.2.2.2.2.1
def dX11_oneWay_38 := db_cX11_oneWay_dX11_oneWay_24_1.2.2.2.2.2.2.2.2.1
def dX11_oneWay_41 := db_cX11_oneWay_dX11_oneWay_24_1.2.2.2.2.2.2.2.2.2.1
def dX11_oneWay_43 := db_cX11_oneWay_dX11_oneWay_24_1.2.2.2.2.2.2.2.2.2.2.1
def dX11_oneWay_44 := db_cX11_oneWay_dX11_oneWay_24_1.2.2.2.2.2.2.2.2.2.2.2
set_option maxRecDepth 100000 in
theorem db_cX11_oneWay_dX11_oneWay_46_2 : (decode cX11_oneWay 46 = .ok (.imul, 1)) ∧ (decode cX11_oneWay 47 = .ok (.iconst 3, 1)) ∧ (decode cX11_oneWay 48 = .ok (.iadd, 1)) ∧ (decode cX11_oneWay 49 = .ok (.aload 7, 2)) ∧ (decode cX11_oneWay 51 = .ok (.iload 10, 2)) ∧ (decode cX11_oneWay 53 = .ok (.laload, 1)) ∧ (decode cX11_oneWay 54 = .ok (.iload 6, 2)) ∧ (decode cX11_oneWay 56 = .ok (.ifCond .eq 7, 3)) ∧ (decode cX11_oneWay 59 = .ok (.lload_n 2, 1)) ∧ (decode cX11_oneWay 60 = .ok (.goto 5, 3)) ∧ (decode cX11_oneWay 63 = .ok (.lload 4, 2)) ∧ (decode cX11_oneWay 65 = .ok (.land, 1)) := by decide +kernel
def dX11_oneWay_46 := db_cX11_oneWay_dX11_oneWay_46_2.1
def dX11_oneWay_47 := db_cX11_oneWay_dX11_oneWay_46_2.2.1
def dX11_oneWay_48 := db_cX11_oneWay_dX11_oneWay_46_2.2.2.1
def dX11_oneWay_49 := db_cX11_oneWay_dX11_oneWay_46_2.2.2.2.1
def dX11_oneWay_51 := db_cX11_oneWay_dX11_oneWay_46_2.2.2.2.2.1
def dX11_oneWay_53 := db_cX11_oneWay_dX11_oneWay_46_2.2.2.2.2.2.1
def dX11_oneWay_54 := db_cX11_oneWay_dX11_oneWay_46_2.2.2.2.2.2.2.1
def dX11_oneWay_56 := db_cX11_oneWay_dX11_oneWay_46_2.2.2.2.2.2.2.2.1
def dX11_oneWay_59 := db_cX11_oneWay_dX11_oneWay_46_2.2.2.2.2.2.2.2.2.1
def dX11_oneWay_60 := db_cX11_oneWay_dX11_oneWay_46_2.2.2.2.2.2.2.2.2.2.1
def dX11_oneWay_63 := db_cX11_oneWay_dX11_oneWay_46_2.2.2.2.2.2.2.2.2.2.2.1
def dX11_oneWay_65 := db_cX11_oneWay_dX11_oneWay_46_2.2.2.2.2.2.2.2.2.2.2.2
set_option maxRecDepth 100000 in
theorem db_cX11_oneWay_dX11_oneWay_66_3 : (decode cX11_oneWay 66 = .ok (.lconst 0, 1)) ∧ (decode cX11_oneWay 67 = .ok (.lcmp, 1)) ∧ (decode cX11_oneWay 68 = .ok (.ifCond .eq 7, 3)) ∧ (decode cX11_oneWay 71 = .ok (.iconst 1, 1)) ∧ (decode cX11_oneWay 72 = .ok (.goto 4, 3)) ∧ (decode cX11_oneWay 75 = .ok (.iconst 0, 1)) ∧ (decode cX11_oneWay 76 = .ok (.iastore, 1)) ∧ (decode cX11_oneWay 77 = .ok (.iconst 0, 1)) ∧ (decode cX11_oneWay 78 = .ok (.istore 11, 2)) ∧ (decode cX11_oneWay 80 = .ok (.iload 11, 2)) ∧ (decode cX11_oneWay 82 = .ok (.iconst 3, 1)) ∧ (decode cX11_oneWay 83 = .ok (.if_icmp .ge 90, 3)) := by decide +kernel
def dX11_oneWay_66 := db_cX11_oneWay_dX11_oneWay_66_3.1
def dX11_oneWay_67 := db_cX11_oneWay_dX11_oneWay_66_3.2.1
def dX11_oneWay_68 := db_cX11_oneWay_dX11_oneWay_66_3.2.2.1
def dX11_oneWay_71 := db_cX11_oneWay_dX11_oneWay_66_3.2.2.2.1
def dX11_oneWay_72 := db_cX11_oneWay_dX11_oneWay_66_3.2.2.2.2.1
def dX11_oneWay_75 := db_cX11_oneWay_dX11_oneWay_66_3.2.2.2.2.2.1
def dX11_oneWay_76 := db_cX11_oneWay_dX11_oneWay_66_3.2.2.2.2.2.2.1
def dX11_oneWay_77 := db_cX11_oneWay_dX11_oneWay_66_3.2.2.2.2.2.2.2.1
def dX11_oneWay_78 := db_cX11_oneWay_dX11_oneWay_66_3.2.2.2.2.2.2.2.2.1
def dX11_oneWay_80 := db_cX11_oneWay_dX11_oneWay_66_3.2.2.2.2.2.2.2.2.2.1
def dX11_oneWay_82 := db_cX11_oneWay_dX11_oneWay_66_3.2.2.2.2.2.2.2.2.2.2.1
def dX11_oneWay_83 := db_cX11_oneWay_dX11_oneWay_66_3.2.2.2.2.2.2.2.2.2.2.2
set_option maxRecDepth 100000 in
theorem db_cX11_oneWay_dX11_oneWay_86_4 : (decode cX11_oneWay 86 = .ok (.aload_n 0, 1)) ∧ (decode cX11_oneWay 87 = .ok (.iload_n 1, 1)) ∧ (decode cX11_oneWay 88 = .ok (.aload 7, 2)) ∧ (decode cX11_oneWay 90 = .ok (.iload 10, 2)) ∧ (decode cX11_oneWay 92 = .ok (.laload, 1)) ∧ (decode cX11_oneWay 93 = .ok (.iload 11, 2)) ∧ (decode cX11_oneWay 95 = .ok (.iload 6, 2)) ∧ (decode cX11_oneWay 97 = .ok (.invokestatic 46, 3)) ∧ (decode cX11_oneWay 100 = .ok (.lstore 12, 2)) ∧ (decode cX11_oneWay 102 = .ok (.iconst 0, 1)) ∧ (decode cX11_oneWay 103 = .ok (.istore 14, 2)) ∧ (decode cX11_oneWay 105 = .ok (.iload 14, 2)) := by decide +kernel
def dX11_oneWay_86 := db_cX11_oneWay_dX11_oneWay_86_4.1
def dX11_oneWay_87 := db_cX11_oneWay_dX11_oneWay_86_4.2.1
def dX11_oneWay_88 := db_cX11_oneWay_dX11_oneWay_86_4.2.2.1
def dX11_oneWay_90 := db_cX11_oneWay_dX11_oneWay_86_4.2.2.2.1
def dX11_oneWay_92 := db_cX11_oneWay_dX11_oneWay_86_4.2.2.2.2.1
def dX11_oneWay_93 := db_cX11_oneWay_dX11_oneWay_86_4.2.2.2.2.2.1
def dX11_oneWay_95 := db_cX11_oneWay_dX11_oneWay_86_4.2.2.2.2.2.2.1
def dX11_oneWay_97 := db_cX11_oneWay_dX11_oneWay_86_4.2.2.2.2.2.2.2.1
def dX11_oneWay_100 := db_cX11_oneWay_dX11_oneWay_86_4.2.2.2.2.2.2.2.2.1
def dX11_oneWay_102 := db_cX11_oneWay_dX11_oneWay_86_4.2.2.2.2.2.2.2.2.2.1
def dX11_oneWay_103 := db_cX11_oneWay_dX11_oneWay_86_4.2.2.2.2.2.2.2.2.2.2.1
def dX11_oneWay_105 := db_cX11_oneWay_dX11_oneWay_86_4.2.2.2.2.2.2.2.2.2.2.2
set_option maxRecDepth 100000 in
theorem db_cX11_oneWay_dX11_oneWay_107_5 : (decode cX11_oneWay 107 = .ok (.iload 9, 2)) ∧ (decode cX11_oneWay 109 = .ok (.if_icmp .ge 20, 3)) ∧ (decode cX11_oneWay 112 = .ok (.aload 7, 2)) ∧ (decode cX11_oneWay 114 = .ok (.iload 14, 2)) ∧ (decode cX11_oneWay 116 = .ok (.laload, 1)) ∧ (decode cX11_oneWay 117 = .ok (.lload 12, 2)) ∧ (decode cX11_oneWay 119 = .ok (.lcmp, 1)) ∧ (decode cX11_oneWay 120 = .ok (.ifCond .eq 9, 3)) ∧ (decode cX11_oneWay 123 = .ok (.iinc 14 1, 3)) ∧ (decode cX11_oneWay 126 = .ok (.goto (-21), 3)) ∧ (decode cX11_oneWay 129 = .ok (.iload 14, 2)) ∧ (decode cX11_oneWay 131 = .ok (.bipush 32, 2)) := by decide +kernel
def dX11_oneWay_107 := db_cX11_oneWay_dX11_oneWay_107_5.1
def dX11_oneWay_109 := db_cX11_oneWay_dX11_oneWay_107_5.2.1
def dX11_oneWay_112 := db_cX11_oneWay_dX11_oneWay_107_5.2.2.1
def dX11_oneWay_114 := db_cX11_oneWay_dX11_oneWay_107_5.2.2.2.1
def dX11_oneWay_116 := db_cX11_oneWay_dX11_oneWay_107_5.2.2.2.2.1
def dX11_oneWay_117 := db_cX11_oneWay_dX11_oneWay_107_5.2.2.2.2.2.1
def dX11_oneWay_119 := db_cX11_oneWay_dX11_oneWay_107_5.2.2.2.2.2.2.1
def dX11_oneWay_120 := db_cX11_oneWay_dX11_oneWay_107_5.2.2.2.2.2.2.2.1
def dX11_oneWay_123 := db_cX11_oneWay_dX11_oneWay_107_5.2.2.2.2.2.2.2.2.1
def dX11_oneWay_126 := db_cX11_oneWay_dX11_oneWay_107_5.2.2.2.2.2.2.2.2.2.1
def dX11_oneWay_129 := db_cX11_oneWay_dX11_oneWay_107_5.2.2.2.2.2.2.2.2.2.2.1
def dX11_oneWay_131 := db_cX11_oneWay_dX11_oneWay_107_5.2.2.2.2.2.2.2.2.2.2.2
set_option maxRecDepth 100000 in
theorem db_cX11_oneWay_dX11_oneWay_133_6 : (decode cX11_oneWay 133 = .ok (.if_icmp .ne 5, 3)) ∧ (decode cX11_oneWay 136 = .ok (.aconst_null, 1)) ∧ (decode cX11_oneWay 137 = .ok (.areturn, 1)) ∧ (decode cX11_oneWay 138 = .ok (.iload 14, 2)) ∧ (decode cX11_oneWay 140 = .ok (.iload 9, 2)) ∧ (decode cX11_oneWay 142 = .ok (.if_icmp .ne 13, 3)) ∧ (decode cX11_oneWay 145 = .ok (.aload 7, 2)) ∧ (decode cX11_oneWay 147 = .ok (.iload 9, 2)) ∧ (decode cX11_oneWay 149 = .ok (.iinc 9 1, 3)) ∧ (decode cX11_oneWay 152 = .ok (.lload 12, 2)) ∧ (decode cX11_oneWay 154 = .ok (.lastore, 1)) ∧ (decode cX11_oneWay 155 = .ok (.aload 8, 2)) := by decide +kernel
def dX11_oneWay_133 := db_cX11_oneWay_dX11_oneWay_133_6.1
def dX11_oneWay_136 := db_cX11_oneWay_dX11_oneWay_133_6.2.1
def dX11_oneWay_137 := db_cX11_oneWay_dX11_oneWay_133_6.2.2.1
def dX11_oneWay_138 := db_cX11_oneWay_dX11_oneWay_133_6.2.2.2.1
def dX11_oneWay_140 := db_cX11_oneWay_dX11_oneWay_133_6.2.2.2.2.1
def dX11_oneWay_142 := db_cX11_oneWay_dX11_oneWay_133_6.2.2.2.2.2.1
def dX11_oneWay_145 := db_cX11_oneWay_dX11_oneWay_133_6.2.2.2.2.2.2.1
def dX11_oneWay_147 := db_cX11_oneWay_dX11_oneWay_133_6.2.2.2.2.2.2.2.1
def dX11_oneWay_149 := db_cX11_oneWay_dX11_oneWay_133_6.2.2.2.2.2.2.2.2.1
def dX11_oneWay_152 := db_cX11_oneWay_dX11_oneWay_133_6.2.2.2.2.2.2.2.2.2.1
def dX11_oneWay_154 := db_cX11_oneWay_dX11_oneWay_133_6.2.2.2.2.2.2.2.2.2.2.1
def dX11_oneWay_155 := db_cX11_oneWay_dX11_oneWay_133_6.2.2.2.2.2.2.2.2.2.2.2
set_option maxRecDepth 100000 in
theorem db_cX11_oneWay_dX11_oneWay_157_7 : (decode cX11_oneWay 157 = .ok (.iconst 4, 1)) ∧ (decode cX11_oneWay 158 = .ok (.iload 10, 2)) ∧ (decode cX11_oneWay 160 = .ok (.imul, 1)) ∧ (decode cX11_oneWay 161 = .ok (.iload 11, 2)) ∧ (decode cX11_oneWay 163 = .ok (.iadd, 1)) ∧ (decode cX11_oneWay 164 = .ok (.iload 14, 2)) ∧ (decode cX11_oneWay 166 = .ok (.iastore, 1)) ∧ (decode cX11_oneWay 167 = .ok (.iinc 11 1, 3)) ∧ (decode cX11_oneWay 170 = .ok (.goto (-90), 3)) ∧ (decode cX11_oneWay 173 = .ok (.iinc 10 1, 3)) ∧ (decode cX11_oneWay 176 = .ok (.goto (-142), 3)) ∧ (decode cX11_oneWay 179 = .ok (.aload 8, 2)) := by decide +kernel
def dX11_oneWay_157 := db_cX11_oneWay_dX11_oneWay_157_7.1
def dX11_oneWay_158 := db_cX11_oneWay_dX11_oneWay_157_7.2.1
def dX11_oneWay_160 := db_cX11_oneWay_dX11_oneWay_157_7.2.2.1
def dX11_oneWay_161 := db_cX11_oneWay_dX11_oneWay_157_7.2.2.2.1
def dX11_oneWay_163 := db_cX11_oneWay_dX11_oneWay_157_7.2.2.2.2.1
def dX11_oneWay_164 := db_cX11_oneWay_dX11_oneWay_157_7.2.2.2.2.2.1
def dX11_oneWay_166 := db_cX11_oneWay_dX11_oneWay_157_7.2.2.2.2.2.2.1
def dX11_oneWay_167 := db_cX11_oneWay_dX11_oneWay_157_7.2.2.2.2.2.2.2.1
def dX11_oneWay_170 := db_cX11_oneWay_dX11_oneWay_157_7.2.2.2.2.2.2.2.2.1
def dX11_oneWay_173 := db_cX11_oneWay_dX11_oneWay_157_7.2.2.2.2.2.2.2.2.2.1
def dX11_oneWay_176 := db_cX11_oneWay_dX11_oneWay_157_7.2.2.2.2.2.2.2.2.2.2.1
def dX11_oneWay_179 := db_cX11_oneWay_dX11_oneWay_157_7.2.2.2.2.2.2.2.2.2.2.2
set_option maxRecDepth 100000 in
theorem db_cX11_oneWay_dX11_oneWay_181_8 : (decode cX11_oneWay 181 = .ok (.iconst 4, 1)) ∧ (decode cX11_oneWay 182 = .ok (.iload 9, 2)) ∧ (decode cX11_oneWay 184 = .ok (.imul, 1)) ∧ (decode cX11_oneWay 185 = .ok (.invokestatic 50, 3)) ∧ (decode cX11_oneWay 188 = .ok (.areturn, 1)) := by decide +kernel
def dX11_oneWay_181 := db_cX11_oneWay_dX11_oneWay_181_8.1
def dX11_oneWay_182 := db_cX11_oneWay_dX11_oneWay_181_8.2.1
def dX11_oneWay_184 := db_cX11_oneWay_dX11_oneWay_181_8.2.2.1
def dX11_oneWay_185 := db_cX11_oneWay_dX11_oneWay_181_8.2.2.2.1
def dX11_oneWay_188 := db_cX11_oneWay_dX11_oneWay_181_8.2.2.2.2
set_option maxRecDepth 100000 in
theorem db_cX11_arrowsAll_dX11_arrowsAll_0_0 : (decode cX11_arrowsAll 0 = .ok (.bipush 21, 2)) ∧ (decode cX11_arrowsAll 2 = .ok (.newarray .long, 2)) ∧ (decode cX11_arrowsAll 4 = .ok (.astore_n 2, 1)) ∧ (decode cX11_arrowsAll 5 = .ok (.iconst 0, 1)) ∧ (decode cX11_arrowsAll 6 = .ok (.istore_n 3, 1)) ∧ (decode cX11_arrowsAll 7 = .ok (.iload_n 3, 1)) ∧ (decode cX11_arrowsAll 8 = .ok (.bipush 21, 2)) ∧ (decode cX11_arrowsAll 10 = .ok (.if_icmp .ge 26, 3)) ∧ (decode cX11_arrowsAll 13 = .ok (.aload_n 2, 1)) ∧ (decode cX11_arrowsAll 14 = .ok (.iload_n 3, 1)) ∧ (decode cX11_arrowsAll 15 = .ok (.aload_n 0, 1)) ∧ (decode cX11_arrowsAll 16 = .ok (.getfield 19, 3)) := by decide +kernel
def dX11_arrowsAll_0 := db_cX11_arrowsAll_dX11_arrowsAll_0_0.1
def dX11_arrowsAll_2 := db_cX11_arrowsAll_dX11_arrowsAll_0_0.2.1
def dX11_arrowsAll_4 := db_cX11_arrowsAll_dX11_arrowsAll_0_0.2.2.1
def dX11_arrowsAll_5 := db_cX11_arrowsAll_dX11_arrowsAll_0_0.2.2.2.1
def dX11_arrowsAll_6 := db_cX11_arrowsAll_dX11_arrowsAll_0_0.2.2.2.2.1
def dX11_arrowsAll_7 := db_cX11_arrowsAll_dX11_arrowsAll_0_0.2.2.2.2.2.1
def dX11_arrowsAll_8 := db_cX11_arrowsAll_dX11_arrowsAll_0_0.2.2.2.2.2.2.1
def dX11_arrowsAll_10 := db_cX11_arrowsAll_dX11_arrowsAll_0_0.2.2.2.2.2.2.2.1
def dX11_arrowsAll_13 := db_cX11_arrowsAll_dX11_arrowsAll_0_0.2.2.2.2.2.2.2.2.1
def dX11_arrowsAll_14 := db_cX11_arrowsAll_dX11_arrowsAll_0_0.2.2.2.2.2.2.2.2.2.1
def dX11_arrowsAll_15 := db_cX11_arrowsAll_dX11_arrowsAll_0_0.2.2.2.2.2.2.2.2.2.2.1
def dX11_arrowsAll_16 := db_cX11_arrowsAll_dX11_arrowsAll_0_0.2.2.2.2.2.2.2.2.2.2.2
set_option maxRecDepth 100000 in
theorem db_cX11_arrowsAll_dX11_arrowsAll_19_1 : (decode cX11_arrowsAll 19 = .ok (.iload_n 1, 1)) ∧ (decode cX11_arrowsAll 20 = .ok (.iconst 0, 1)) ∧ (decode cX11_arrowsAll 21 = .ok (.iconst 0, 1)) ∧ (decode cX11_arrowsAll 22 = .ok (.invokestatic 36, 3)) ∧ (decode cX11_arrowsAll 25 = .ok (.iload_n 3, 1)) ∧ (decode cX11_arrowsAll 26 = .ok (.iadd, 1)) ∧ (decode cX11_arrowsAll 27 = .ok (.iaload, 1)) ∧ (decode cX11_arrowsAll 28 = .ok (.i2l, 1)) ∧ (decode cX11_arrowsAll 29 = .ok (.lastore, 1)) ∧ (decode cX11_arrowsAll 30 = .ok (.iinc 3 1, 3)) ∧ (decode cX11_arrowsAll 33 = .ok (.goto (-26), 3)) ∧ (decode cX11_arrowsAll 36 = .ok (.aload_n 2, 1)) := by decide +kernel
def dX11_arrowsAll_19 := db_cX11_arrowsAll_dX11_arrowsAll_19_1.1
def dX11_arrowsAll_20 := db_cX11_arrowsAll_dX11_arrowsAll_19_1.2.1
def dX11_arrowsAll_21 := db_cX11_arrowsAll_dX11_arrowsAll_19_1.2.2.1
def dX11_arrowsAll_22 := db_cX11_arrowsAll_dX11_arrowsAll_19_1.2.2.2.1
def dX11_arrowsAll_25 := db_cX11_arrowsAll_dX11_arrowsAll_19_1.2.2.2.2.1
def dX11_arrowsAll_26 := db_cX11_arrowsAll_dX11_arrowsAll_19_1.2.2.2.2.2.1
def dX11_arrowsAll_27 := db_cX11_arrowsAll_dX11_arrowsAll_19_1.2.2.2.2.2.2.1
def dX11_arrowsAll_28 := db_cX11_arrowsAll_dX11_arrowsAll_19_1.2.2.2.2.2.2.2.1
def dX11_arrowsAll_29 := db_cX11_arrowsAll_dX11_arrowsAll_19_1.2.2.2.2.2.2.2.2.1
def dX11_arrowsAll_30 := db_cX11_arrowsAll_dX11_arrowsAll_19_1.2.2.2.2.2.2.2.2.2.1
def dX11_arrowsAll_33 := db_cX11_arrowsAll_dX11_arrowsAll_19_1.2.2.2.2.2.2.2.2.2.2.1
def dX11_arrowsAll_36 := db_cX11_arrowsAll_dX11_arrowsAll_19_1.2.2.2.2.2.2.2.2.2.2.2
theorem dX11_arrowsAll_37 : decode cX11_arrowsAll 37 = .ok (.areturn, 1) := by decide +kernel
set_option maxRecDepth 100000 in
theorem db_cX11_oneWay__dX11_oneWay__0_0 : (decode cX11_oneWay_ 0 = .ok (.aload_n 0, 1)) ∧ (decode cX11_oneWay_ 1 = .ok (.iload_n 1, 1)) ∧ (decode cX11_oneWay_ 2 = .ok (.invokevirtual 54, 3)) ∧ (decode cX11_oneWay_ 5 = .ok (.aload_n 0, 1)) ∧ (decode cX11_oneWay_ 6 = .ok (.getfield 7, 3)) ∧ (decode cX11_oneWay_ 9 = .ok (.iload_n 1, 1)) ∧ (decode cX11_oneWay_ 10 = .ok (.iaload, 1)) ∧ (decode cX11_oneWay_ 11 = .ok (.aload_n 0, 1)) ∧ (decode cX11_oneWay_ 12 = .ok (.getfield 13, 3)) ∧ (decode cX11_oneWay_ 15 = .ok (.iload_n 1, 1)) ∧ (decode cX11_oneWay_ 16 = .ok (.iaload, 1)) ∧ (decode cX11_oneWay_ 17 = .ok (.i2l, 1)) := by decide +kernel
def dX11_oneWay__0 := db_cX11_oneWay__dX11_oneWay__0_0.1
def dX11_oneWay__1 := db_cX11_oneWay__dX11_oneWay__0_0.2.1
def dX11_oneWay__2 := db_cX11_oneWay__dX11_oneWay__0_0.2.2.1
def dX11_oneWay__5 := db_cX11_oneWay__dX11_oneWay__0_0.2.2.2.1
def dX11_oneWay__6 := db_cX11_oneWay__dX11_oneWay__0_0.2.2.2.2.1
def dX11_oneWay__9 := db_cX11_oneWay__dX11_oneWay__0_0.2.2.2.2.2.1
def dX11_oneWay__10 := db_cX11_oneWay__dX11_oneWay__0_0.2.2.2.2.2.2.1
def dX11_oneWay__11 := db_cX11_oneWay__dX11_oneWay__0_0.2.2.2.2.2.2.2.1
def dX11_oneWay__12 := db_cX11_oneWay__dX11_oneWay__0_0.2.2.2.2.2.2.2.2.1
def dX11_oneWay__15 := db_cX11_oneWay__dX11_oneWay__0_0.2.2.2.2.2.2.2.2.2.1
def dX11_oneWay__16 := db_cX11_oneWay__dX11_oneWay__0_0.2.2.2.2.2.2.2.2.2.2.1
def dX11_oneWay__17 := db_cX11_oneWay__dX11_oneWay__0_0.2.2.2.2.2.2.2.2.2.2.2
set_option maxRecDepth 100000 in
theorem db_cX11_oneWay__dX11_oneWay__18_1 : (decode cX11_oneWay_ 18 = .ok (.aload_n 0, 1)) ∧ (decode cX11_oneWay_ 19 = .ok (.getfield 16, 3)) ∧ (decode cX11_oneWay_ 22 = .ok (.iload_n 1, 1)) ∧ (decode cX11_oneWay_ 23 = .ok (.iaload, 1)) ∧ (decode cX11_oneWay_ 24 = .ok (.i2l, 1)) ∧ (decode cX11_oneWay_ 25 = .ok (.iconst 0, 1)) ∧ (decode cX11_oneWay_ 26 = .ok (.invokestatic 58, 3)) ∧ (decode cX11_oneWay_ 29 = .ok (.areturn, 1)) := by decide +kernel
def dX11_oneWay__18 := db_cX11_oneWay__dX11_oneWay__18_1.1
def dX11_oneWay__19 := db_cX11_oneWay__dX11_oneWay__18_1.2.1
def dX11_oneWay__22 := db_cX11_oneWay__dX11_oneWay__18_1.2.2.1
def dX11_oneWay__23 := db_cX11_oneWay__dX11_oneWay__18_1.2.2.2.1
def dX11_oneWay__24 := db_cX11_oneWay__dX11_oneWay__18_1.2.2.2.2.1
def dX11_oneWay__25 := db_cX11_oneWay__dX11_oneWay__18_1.2.2.2.2.2.1
def dX11_oneWay__26 := db_cX11_oneWay__dX11_oneWay__18_1.2.2.2.2.2.2.1
def dX11_oneWay__29 := db_cX11_oneWay__dX11_oneWay__18_1.2.2.2.2.2.2.2
set_option maxRecDepth 100000 in
theorem db_cX11_isLike_dX11_isLike_0_0 : (decode cX11_isLike 0 = .ok (.aload_n 1, 1)) ∧ (decode cX11_isLike 1 = .ok (.iload_n 2, 1)) ∧ (decode cX11_isLike 2 = .ok (.iaload, 1)) ∧ (decode cX11_isLike 3 = .ok (.aload_n 1, 1)) ∧ (decode cX11_isLike 4 = .ok (.iload_n 3, 1)) ∧ (decode cX11_isLike 5 = .ok (.iaload, 1)) ∧ (decode cX11_isLike 6 = .ok (.if_icmp .ne 7, 3)) ∧ (decode cX11_isLike 9 = .ok (.iconst 1, 1)) ∧ (decode cX11_isLike 10 = .ok (.goto 4, 3)) ∧ (decode cX11_isLike 13 = .ok (.iconst 0, 1)) ∧ (decode cX11_isLike 14 = .ok (.istore 4, 2)) ∧ (decode cX11_isLike 16 = .ok (.iconst 0, 1)) := by decide +kernel
def dX11_isLike_0 := db_cX11_isLike_dX11_isLike_0_0.1
def dX11_isLike_1 := db_cX11_isLike_dX11_isLike_0_0.2.1
def dX11_isLike_2 := db_cX11_isLike_dX11_isLike_0_0.2.2.1
def dX11_isLike_3 := db_cX11_isLike_dX11_isLike_0_0.2.2.2.1
def dX11_isLike_4 := db_cX11_isLike_dX11_isLike_0_0.2.2.2.2.1
def dX11_isLike_5 := db_cX11_isLike_dX11_isLike_0_0.2.2.2.2.2.1
def dX11_isLike_6 := db_cX11_isLike_dX11_isLike_0_0.2.2.2.2.2.2.1
def dX11_isLike_9 := db_cX11_isLike_dX11_isLike_0_0.2.2.2.2.2.2.2.1
def dX11_isLike_10 := db_cX11_isLike_dX11_isLike_0_0.2.2.2.2.2.2.2.2.1
def dX11_isLike_13 := db_cX11_isLike_dX11_isLike_0_0.2.2.2.2.2.2.2.2.2.1
def dX11_isLike_14 := db_cX11_isLike_dX11_isLike_0_0.2.2.2.2.2.2.2.2.2.2.1
def dX11_isLike_16 := db_cX11_isLike_dX11_isLike_0_0.2.2.2.2.2.2.2.2.2.2.2
set_option maxRecDepth 100000 in
theorem db_cX11_isLike_dX11_isLike_17_1 : (decode cX11_isLike 17 = .ok (.istore 5, 2)) ∧ (decode cX11_isLike 19 = .ok (.iload 5, 2)) ∧ (decode cX11_isLike 21 = .ok (.iconst 3, 1)) ∧ (decode cX11_isLike 22 = .ok (.if_icmp .ge 42, 3)) ∧ (decode cX11_isLike 25 = .ok (.iload 4, 2)) ∧ (decode cX11_isLike 27 = .ok (.aload_n 1, 1)) ∧ (decode cX11_isLike 28 = .ok (.aload_n 0, 1)) ∧ (decode cX11_isLike 29 = .ok (.iconst 4, 1)) ∧ (decode cX11_isLike 30 = .ok (.iload_n 2, 1)) ∧ (decode cX11_isLike 31 = .ok (.imul, 1)) ∧ (decode cX11_isLike 32 = .ok (.iload 5, 2)) ∧ (decode cX11_isLike 34 = .ok (.iadd, 1)) := by decide +kernel
def dX11_isLike_17 := db_cX11_isLike_dX11_isLike_17_1.1
def dX11_isLike_19 := db_cX11_isLike_dX11_isLike_17_1.2.1
def dX11_isLike_21 := db_cX11_isLike_dX11_isLike_17_1.2.2.1
def dX11_isLike_22 := db_cX11_isLike_dX11_isLike_17_1.2.2.2.1
def dX11_isLike_25 := db_cX11_isLike_dX11_isLike_17_1.2.2.2.2.1
def dX11_isLike_27 := db_cX11_isLike_dX11_isLike_17_1.2.2.2.2.2.1
def dX11_isLike_28 := db_cX11_isLike_dX11_isLike_17_1.2.2.2.2.2.2.1
def dX11_isLike_29 := db_cX11_isLike_dX11_isLike_17_1.2.2.2.2.2.2.2.1
def dX11_isLike_30 := db_cX11_isLike_dX11_isLike_17_1.2.2.2.2.2.2.2.2.1
def dX11_isLike_31 := db_cX11_isLike_dX11_isLike_17_1.2.2.2.2.2.2.2.2.2.1
def dX11_isLike_32 := db_cX11_isLike_dX11_isLike_17_1.2.2.2.2.2.2.2.2.2.2.1
def dX11_isLike_34 := db_cX11_isLike_dX11_isLike_17_1.2.2.2.2.2.2.2.2.2.2.2
set_option maxRecDepth 100000 in
theorem db_cX11_isLike_dX11_isLike_35_2 : (decode cX11_isLike 35 = .ok (.iaload, 1)) ∧ (decode cX11_isLike 36 = .ok (.iaload, 1)) ∧ (decode cX11_isLike 37 = .ok (.aload_n 1, 1)) ∧ (decode cX11_isLike 38 = .ok (.aload_n 0, 1)) ∧ (decode cX11_isLike 39 = .ok (.iconst 4, 1)) ∧ (decode cX11_isLike 40 = .ok (.iload_n 3, 1)) ∧ (decode cX11_isLike 41 = .ok (.imul, 1)) ∧ (decode cX11_isLike 42 = .ok (.iload 5, 2)) ∧ (decode cX11_isLike 44 = .ok (.iadd, 1)) ∧ (decode cX11_isLike 45 = .ok (.iaload, 1)) ∧ (decode cX11_isLike 46 = .ok (.iaload, 1)) ∧ (decode cX11_isLike 47 = .ok (.if_icmp .ne 7, 3)) := by decide +kernel
def dX11_isLike_35 := db_cX11_isLike_dX11_isLike_35_2.1
def dX11_isLike_36 := db_cX11_isLike_dX11_isLike_35_2.2.1
def dX11_isLike_37 := db_cX11_isLike_dX11_isLike_35_2.2.2.1
def dX11_isLike_38 := db_cX11_isLike_dX11_isLike_35_2.2.2.2.1
def dX11_isLike_39 := db_cX11_isLike_dX11_isLike_35_2.2.2.2.2.1
def dX11_isLike_40 := db_cX11_isLike_dX11_isLike_35_2.2.2.2.2.2.1
def dX11_isLike_41 := db_cX11_isLike_dX11_isLike_35_2.2.2.2.2.2.2.1
def dX11_isLike_42 := db_cX11_isLike_dX11_isLike_35_2.2.2.2.2.2.2.2.1
def dX11_isLike_44 := db_cX11_isLike_dX11_isLike_35_2.2.2.2.2.2.2.2.2.1
def dX11_isLike_45 := db_cX11_isLike_dX11_isLike_35_2.2.2.2.2.2.2.2.2.2.1
def dX11_isLike_46 := db_cX11_isLike_dX11_isLike_35_2.2.2.2.2.2.2.2.2.2.2.1
def dX11_isLike_47 := db_cX11_isLike_dX11_isLike_35_2.2.2.2.2.2.2.2.2.2.2.2
set_option maxRecDepth 100000 in
theorem db_cX11_isLike_dX11_isLike_50_3 : (decode cX11_isLike 50 = .ok (.iconst 1, 1)) ∧ (decode cX11_isLike 51 = .ok (.goto 4, 3)) ∧ (decode cX11_isLike 54 = .ok (.iconst 0, 1)) ∧ (decode cX11_isLike 55 = .ok (.iand, 1)) ∧ (decode cX11_isLike 56 = .ok (.istore 4, 2)) ∧ (decode cX11_isLike 58 = .ok (.iinc 5 1, 3)) ∧ (decode cX11_isLike 61 = .ok (.goto (-42), 3)) ∧ (decode cX11_isLike 64 = .ok (.iload 4, 2)) ∧ (decode cX11_isLike 66 = .ok (.ireturn, 1)) := by decide +kernel
def dX11_isLike_50 := db_cX11_isLike_dX11_isLike_50_3.1
def dX11_isLike_51 := db_cX11_isLike_dX11_isLike_50_3.2.1
def dX11_isLike_54 := db_cX11_isLike_dX11_isLike_50_3.2.2.1
def dX11_isLike_55 := db_cX11_isLike_dX11_isLike_50_3.2.2.2.1
def dX11_isLike_56 := db_cX11_isLike_dX11_isLike_50_3.2.2.2.2.1
def dX11_isLike_58 := db_cX11_isLike_dX11_isLike_50_3.2.2.2.2.2.1
def dX11_isLike_61 := db_cX11_isLike_dX11_isLike_50_3.2.2.2.2.2.2.1
def dX11_isLike_64 := db_cX11_isLike_dX11_isLike_50_3.2.2.2.2.2.2.2.1
def dX11_isLike_66 := db_cX11_isLike_dX11_isLike_50_3.2.2.2.2.2.2.2.2
set_option maxRecDepth 100000 in
theorem db_cX11_alike_dX11_alike_0_0 : (decode cX11_alike 0 = .ok (.aload_n 0, 1)) ∧ (decode cX11_alike 1 = .ok (.arraylength, 1)) ∧ (decode cX11_alike 2 = .ok (.iconst 4, 1)) ∧ (decode cX11_alike 3 = .ok (.idiv, 1)) ∧ (decode cX11_alike 4 = .ok (.istore_n 1, 1)) ∧ (decode cX11_alike 5 = .ok (.iload_n 1, 1)) ∧ (decode cX11_alike 6 = .ok (.newarray .int, 2)) ∧ (decode cX11_alike 8 = .ok (.astore_n 2, 1)) ∧ (decode cX11_alike 9 = .ok (.iconst 0, 1)) ∧ (decode cX11_alike 10 = .ok (.istore_n 3, 1)) ∧ (decode cX11_alike 11 = .ok (.iload_n 3, 1)) ∧ (decode cX11_alike 12 = .ok (.iload_n 1, 1)) := by decide +kernel
def dX11_alike_0 := db_cX11_alike_dX11_alike_0_0.1
def dX11_alike_1 := db_cX11_alike_dX11_alike_0_0.2.1
def dX11_alike_2 := db_cX11_alike_dX11_alike_0_0.2.2.1
def dX11_alike_3 := db_cX11_alike_dX11_alike_0_0.2.2.2.1
def dX11_alike_4 := db_cX11_alike_dX11_alike_0_0.2.2.2.2.1
def dX11_alike_5 := db_cX11_alike_dX11_alike_0_0.2.2.2.2.2.1
def dX11_alike_6 := db_cX11_alike_dX11_alike_0_0.2.2.2.2.2.2.1
def dX11_alike_8 := db_cX11_alike_dX11_alike_0_0.2.2.2.2.2.2.2.1
def dX11_alike_9 := db_cX11_alike_dX11_alike_0_0.2.2.2.2.2.2.2.2.1
def dX11_alike_10 := db_cX11_alike_dX11_alike_0_0.2.2.2.2.2.2.2.2.2.1
def dX11_alike_11 := db_cX11_alike_dX11_alike_0_0.2.2.2.2.2.2.2.2.2.2.1
def dX11_alike_12 := db_cX11_alike_dX11_alike_0_0.2.2.2.2.2.2.2.2.2.2.2
set_option maxRecDepth 100000 in
theorem db_cX11_alike_dX11_alike_13_1 : (decode cX11_alike 13 = .ok (.if_icmp .ge 19, 3)) ∧ (decode cX11_alike 16 = .ok (.aload_n 2, 1)) ∧ (decode cX11_alike 17 = .ok (.iload_n 3, 1)) ∧ (decode cX11_alike 18 = .ok (.aload_n 0, 1)) ∧ (decode cX11_alike 19 = .ok (.iconst 4, 1)) ∧ (decode cX11_alike 20 = .ok (.iload_n 3, 1)) ∧ (decode cX11_alike 21 = .ok (.imul, 1)) ∧ (decode cX11_alike 22 = .ok (.iconst 3, 1)) ∧ (decode cX11_alike 23 = .ok (.iadd, 1)) ∧ (decode cX11_alike 24 = .ok (.iaload, 1)) ∧ (decode cX11_alike 25 = .ok (.iastore, 1)) ∧ (decode cX11_alike 26 = .ok (.iinc 3 1, 3)) := by decide +kernel
def dX11_alike_13 := db_cX11_alike_dX11_alike_13_1.1
def dX11_alike_16 := db_cX11_alike_dX11_alike_13_1.2.1
def dX11_alike_17 := db_cX11_alike_dX11_alike_13_1.2.2.1
def dX11_alike_18 := db_cX11_alike_dX11_alike_13_1.2.2.2.1
def dX11_alike_19 := db_cX11_alike_dX11_alike_13_1.2.2.2.2.1
def dX11_alike_20 := db_cX11_alike_dX11_alike_13_1.2.2.2.2.2.1
def dX11_alike_21 := db_cX11_alike_dX11_alike_13_1.2.2.2.2.2.2.1
def dX11_alike_22 := db_cX11_alike_dX11_alike_13_1.2.2.2.2.2.2.2.1
def dX11_alike_23 := db_cX11_alike_dX11_alike_13_1.2.2.2.2.2.2.2.2.1
def dX11_alike_24 := db_cX11_alike_dX11_alike_13_1.2.2.2.2.2.2.2.2.2.1
def dX11_alike_25 := db_cX11_alike_dX11_alike_13_1.2.2.2.2.2.2.2.2.2.2.1
def dX11_alike_26 := db_cX11_alike_dX11_alike_13_1.2.2.2.2.2.2.2.2.2.2.2
set_option maxRecDepth 100000 in
theorem db_cX11_alike_dX11_alike_29_2 : (decode cX11_alike 29 = .ok (.goto (-18), 3)) ∧ (decode cX11_alike 32 = .ok (.iconst 0, 1)) ∧ (decode cX11_alike 33 = .ok (.istore_n 3, 1)) ∧ (decode cX11_alike 34 = .ok (.iload_n 3, 1)) ∧ (decode cX11_alike 35 = .ok (.iload_n 1, 1)) ∧ (decode cX11_alike 36 = .ok (.if_icmp .ge 60, 3)) ∧ (decode cX11_alike 39 = .ok (.iload_n 1, 1)) ∧ (decode cX11_alike 40 = .ok (.newarray .int, 2)) ∧ (decode cX11_alike 42 = .ok (.astore 4, 2)) ∧ (decode cX11_alike 44 = .ok (.iconst 0, 1)) ∧ (decode cX11_alike 45 = .ok (.istore 5, 2)) ∧ (decode cX11_alike 47 = .ok (.iload 5, 2)) := by decide +kernel
def dX11_alike_29 := db_cX11_alike_dX11_alike_29_2.1
def dX11_alike_32 := db_cX11_alike_dX11_alike_29_2.2.1
def dX11_alike_33 := db_cX11_alike_dX11_alike_29_2.2.2.1
def dX11_alike_34 := db_cX11_alike_dX11_alike_29_2.2.2.2.1
def dX11_alike_35 := db_cX11_alike_dX11_alike_29_2.2.2.2.2.1
def dX11_alike_36 := db_cX11_alike_dX11_alike_29_2.2.2.2.2.2.1
def dX11_alike_39 := db_cX11_alike_dX11_alike_29_2.2.2.2.2.2.2.1
def dX11_alike_40 := db_cX11_alike_dX11_alike_29_2.2.2.2.2.2.2.2.1
def dX11_alike_42 := db_cX11_alike_dX11_alike_29_2.2.2.2.2.2.2.2.2.1
def dX11_alike_44 := db_cX11_alike_dX11_alike_29_2.2.2.2.2.2.2.2.2.2.1
def dX11_alike_45 := db_cX11_alike_dX11_alike_29_2.2.2.2.2.2.2.2.2.2.2.1
def dX11_alike_47 := db_cX11_alike_dX11_alike_29_2.2.2.2.2.2.2.2.2.2.2.2
set_option maxRecDepth 100000 in
theorem db_cX11_alike_dX11_alike_49_3 : (decode cX11_alike 49 = .ok (.iload_n 1, 1)) ∧ (decode cX11_alike 50 = .ok (.if_icmp .ge 37, 3)) ∧ (decode cX11_alike 53 = .ok (.iconst 0, 1)) ∧ (decode cX11_alike 54 = .ok (.istore 6, 2)) ∧ (decode cX11_alike 56 = .ok (.aload_n 0, 1)) ∧ (decode cX11_alike 57 = .ok (.aload_n 2, 1)) ∧ (decode cX11_alike 58 = .ok (.iload 6, 2)) ∧ (decode cX11_alike 60 = .ok (.iload 5, 2)) ∧ (decode cX11_alike 62 = .ok (.invokestatic 62, 3)) ∧ (decode cX11_alike 65 = .ok (.ifCond .ne 9, 3)) ∧ (decode cX11_alike 68 = .ok (.iinc 6 1, 3)) ∧ (decode cX11_alike 71 = .ok (.goto (-15), 3)) := by decide +kernel
def dX11_alike_49 := db_cX11_alike_dX11_alike_49_3.1
def dX11_alike_50 := db_cX11_alike_dX11_alike_49_3.2.1
def dX11_alike_53 := db_cX11_alike_dX11_alike_49_3.2.2.1
def dX11_alike_54 := db_cX11_alike_dX11_alike_49_3.2.2.2.1
def dX11_alike_56 := db_cX11_alike_dX11_alike_49_3.2.2.2.2.1
def dX11_alike_57 := db_cX11_alike_dX11_alike_49_3.2.2.2.2.2.1
def dX11_alike_58 := db_cX11_alike_dX11_alike_49_3.2.2.2.2.2.2.1
def dX11_alike_60 := db_cX11_alike_dX11_alike_49_3.2.2.2.2.2.2.2.1
def dX11_alike_62 := db_cX11_alike_dX11_alike_49_3.2.2.2.2.2.2.2.2.1
def dX11_alike_65 := db_cX11_alike_dX11_alike_49_3.2.2.2.2.2.2.2.2.2.1
def dX11_alike_68 := db_cX11_alike_dX11_alike_49_3.2.2.2.2.2.2.2.2.2.2.1
def dX11_alike_71 := db_cX11_alike_dX11_alike_49_3.2.2.2.2.2.2.2.2.2.2.2
set_option maxRecDepth 100000 in
theorem db_cX11_alike_dX11_alike_74_4 : (decode cX11_alike 74 = .ok (.aload 4, 2)) ∧ (decode cX11_alike 76 = .ok (.iload 5, 2)) ∧ (decode cX11_alike 78 = .ok (.iload 6, 2)) ∧ (decode cX11_alike 80 = .ok (.iastore, 1)) ∧ (decode cX11_alike 81 = .ok (.iinc 5 1, 3)) ∧ (decode cX11_alike 84 = .ok (.goto (-37), 3)) ∧ (decode cX11_alike 87 = .ok (.aload 4, 2)) ∧ (decode cX11_alike 89 = .ok (.astore_n 2, 1)) ∧ (decode cX11_alike 90 = .ok (.iinc 3 1, 3)) ∧ (decode cX11_alike 93 = .ok (.goto (-59), 3)) ∧ (decode cX11_alike 96 = .ok (.aload_n 2, 1)) ∧ (decode cX11_alike 97 = .ok (.areturn, 1)) := by decide +kernel
def dX11_alike_74 := db_cX11_alike_dX11_alike_74_4.1
def dX11_alike_76 := db_cX11_alike_dX11_alike_74_4.2.1
def dX11_alike_78 := db_cX11_alike_dX11_alike_74_4.2.2.1
def dX11_alike_80 := db_cX11_alike_dX11_alike_74_4.2.2.2.1
def dX11_alike_81 := db_cX11_alike_dX11_alike_74_4.2.2.2.2.1
def dX11_alike_84 := db_cX11_alike_dX11_alike_74_4.2.2.2.2.2.1
def dX11_alike_87 := db_cX11_alike_dX11_alike_74_4.2.2.2.2.2.2.1
def dX11_alike_89 := db_cX11_alike_dX11_alike_74_4.2.2.2.2.2.2.2.1
def dX11_alike_90 := db_cX11_alike_dX11_alike_74_4.2.2.2.2.2.2.2.2.1
def dX11_alike_93 := db_cX11_alike_dX11_alike_74_4.2.2.2.2.2.2.2.2.2.1
def dX11_alike_96 := db_cX11_alike_dX11_alike_74_4.2.2.2.2.2.2.2.2.2.2.1
def dX11_alike_97 := db_cX11_alike_dX11_alike_74_4.2.2.2.2.2.2.2.2.2.2.2
set_option maxRecDepth 100000 in
theorem db_cX11_least_dX11_least_0_0 : (decode cX11_least 0 = .ok (.aload_n 0, 1)) ∧ (decode cX11_least 1 = .ok (.ifnonnull 5, 3)) ∧ (decode cX11_least 4 = .ok (.aconst_null, 1)) ∧ (decode cX11_least 5 = .ok (.areturn, 1)) ∧ (decode cX11_least 6 = .ok (.aload_n 0, 1)) ∧ (decode cX11_least 7 = .ok (.invokestatic 66, 3)) ∧ (decode cX11_least 10 = .ok (.astore_n 1, 1)) ∧ (decode cX11_least 11 = .ok (.aload_n 1, 1)) ∧ (decode cX11_least 12 = .ok (.arraylength, 1)) ∧ (decode cX11_least 13 = .ok (.newarray .int, 2)) ∧ (decode cX11_least 15 = .ok (.astore_n 2, 1)) ∧ (decode cX11_least 16 = .ok (.aload_n 0, 1)) := by decide +kernel
def dX11_least_0 := db_cX11_least_dX11_least_0_0.1
def dX11_least_1 := db_cX11_least_dX11_least_0_0.2.1
def dX11_least_4 := db_cX11_least_dX11_least_0_0.2.2.1
def dX11_least_5 := db_cX11_least_dX11_least_0_0.2.2.2.1
def dX11_least_6 := db_cX11_least_dX11_least_0_0.2.2.2.2.1
def dX11_least_7 := db_cX11_least_dX11_least_0_0.2.2.2.2.2.1
def dX11_least_10 := db_cX11_least_dX11_least_0_0.2.2.2.2.2.2.1
def dX11_least_11 := db_cX11_least_dX11_least_0_0.2.2.2.2.2.2.2.1
def dX11_least_12 := db_cX11_least_dX11_least_0_0.2.2.2.2.2.2.2.2.1
def dX11_least_13 := db_cX11_least_dX11_least_0_0.2.2.2.2.2.2.2.2.2.1
def dX11_least_15 := db_cX11_least_dX11_least_0_0.2.2.2.2.2.2.2.2.2.2.1
def dX11_least_16 := db_cX11_least_dX11_least_0_0.2.2.2.2.2.2.2.2.2.2.2
set_option maxRecDepth 100000 in
theorem db_cX11_least_dX11_least_17_1 : (decode cX11_least 17 = .ok (.arraylength, 1)) ∧ (decode cX11_least 18 = .ok (.newarray .int, 2)) ∧ (decode cX11_least 20 = .ok (.astore_n 3, 1)) ∧ (decode cX11_least 21 = .ok (.iconst 1, 1)) ∧ (decode cX11_least 22 = .ok (.istore 4, 2)) ∧ (decode cX11_least 24 = .ok (.iconst 0, 1)) ∧ (decode cX11_least 25 = .ok (.istore 5, 2)) ∧ (decode cX11_least 27 = .ok (.iload 5, 2)) ∧ (decode cX11_least 29 = .ok (.iload 4, 2)) ∧ (decode cX11_least 31 = .ok (.if_icmp .ge 111, 3)) ∧ (decode cX11_least 34 = .ok (.aload_n 3, 1)) ∧ (decode cX11_least 35 = .ok (.iconst 4, 1)) := by decide +kernel
def dX11_least_17 := db_cX11_least_dX11_least_17_1.1
def dX11_least_18 := db_cX11_least_dX11_least_17_1.2.1
def dX11_least_20 := db_cX11_least_dX11_least_17_1.2.2.1
def dX11_least_21 := db_cX11_least_dX11_least_17_1.2.2.2.1
def dX11_least_22 := db_cX11_least_dX11_least_17_1.2.2.2.2.1
def dX11_least_24 := db_cX11_least_dX11_least_17_1.2.2.2.2.2.1
def dX11_least_25 := db_cX11_least_dX11_least_17_1.2.2.2.2.2.2.1
def dX11_least_27 := db_cX11_least_dX11_least_17_1.2.2.2.2.2.2.2.1
def dX11_least_29 := db_cX11_least_dX11_least_17_1.2.2.2.2.2.2.2.2.1
def dX11_least_31 := db_cX11_least_dX11_least_17_1.2.2.2.2.2.2.2.2.2.1
def dX11_least_34 := db_cX11_least_dX11_least_17_1.2.2.2.2.2.2.2.2.2.2.1
def dX11_least_35 := db_cX11_least_dX11_least_17_1.2.2.2.2.2.2.2.2.2.2.2
set_option maxRecDepth 100000 in
theorem db_cX11_least_dX11_least_36_2 : (decode cX11_least 36 = .ok (.iload 5, 2)) ∧ (decode cX11_least 38 = .ok (.imul, 1)) ∧ (decode cX11_least 39 = .ok (.iconst 3, 1)) ∧ (decode cX11_least 40 = .ok (.iadd, 1)) ∧ (decode cX11_least 41 = .ok (.aload_n 0, 1)) ∧ (decode cX11_least 42 = .ok (.iconst 4, 1)) ∧ (decode cX11_least 43 = .ok (.aload_n 2, 1)) ∧ (decode cX11_least 44 = .ok (.iload 5, 2)) ∧ (decode cX11_least 46 = .ok (.iaload, 1)) ∧ (decode cX11_least 47 = .ok (.imul, 1)) ∧ (decode cX11_least 48 = .ok (.iconst 3, 1)) ∧ (decode cX11_least 49 = .ok (.iadd, 1)) := by decide +kernel
def dX11_least_36 := db_cX11_least_dX11_least_36_2.1
def dX11_least_38 := db_cX11_least_dX11_least_36_2.2.1
def dX11_least_39 := db_cX11_least_dX11_least_36_2.2.2.1
def dX11_least_40 := db_cX11_least_dX11_least_36_2.2.2.2.1
def dX11_least_41 := db_cX11_least_dX11_least_36_2.2.2.2.2.1
def dX11_least_42 := db_cX11_least_dX11_least_36_2.2.2.2.2.2.1
def dX11_least_43 := db_cX11_least_dX11_least_36_2.2.2.2.2.2.2.1
def dX11_least_44 := db_cX11_least_dX11_least_36_2.2.2.2.2.2.2.2.1
def dX11_least_46 := db_cX11_least_dX11_least_36_2.2.2.2.2.2.2.2.2.1
def dX11_least_47 := db_cX11_least_dX11_least_36_2.2.2.2.2.2.2.2.2.2.1
def dX11_least_48 := db_cX11_least_dX11_least_36_2.2.2.2.2.2.2.2.2.2.2.1
def dX11_least_49 := db_cX11_least_dX11_least_36_2.2.2.2.2.2.2.2.2.2.2.2
set_option maxRecDepth 100000 in
theorem db_cX11_least_dX11_least_50_3 : (decode cX11_least 50 = .ok (.iaload, 1)) ∧ (decode cX11_least 51 = .ok (.iastore, 1)) ∧ (decode cX11_least 52 = .ok (.iconst 0, 1)) ∧ (decode cX11_least 53 = .ok (.istore 6, 2)) ∧ (decode cX11_least 55 = .ok (.iload 6, 2)) ∧ (decode cX11_least 57 = .ok (.iconst 3, 1)) ∧ (decode cX11_least 58 = .ok (.if_icmp .ge 78, 3)) ∧ (decode cX11_least 61 = .ok (.aload_n 0, 1)) ∧ (decode cX11_least 62 = .ok (.iconst 4, 1)) ∧ (decode cX11_least 63 = .ok (.aload_n 2, 1)) ∧ (decode cX11_least 64 = .ok (.iload 5, 2)) ∧ (decode cX11_least 66 = .ok (.iaload, 1)) := by decide +kernel
def dX11_least_50 := db_cX11_least_dX11_least_50_3.1
def dX11_least_51 := db_cX11_least_dX11_least_50_3.2.1
def dX11_least_52 := db_cX11_least_dX11_least_50_3.2.2.1
def dX11_least_53 := db_cX11_least_dX11_least_50_3.2.2.2.1
def dX11_least_55 := db_cX11_least_dX11_least_50_3.2.2.2.2.1
def dX11_least_57 := db_cX11_least_dX11_least_50_3.2.2.2.2.2.1
def dX11_least_58 := db_cX11_least_dX11_least_50_3.2.2.2.2.2.2.1
def dX11_least_61 := db_cX11_least_dX11_least_50_3.2.2.2.2.2.2.2.1
def dX11_least_62 := db_cX11_least_dX11_least_50_3.2.2.2.2.2.2.2.2.1
def dX11_least_63 := db_cX11_least_dX11_least_50_3.2.2.2.2.2.2.2.2.2.1
def dX11_least_64 := db_cX11_least_dX11_least_50_3.2.2.2.2.2.2.2.2.2.2.1
def dX11_least_66 := db_cX11_least_dX11_least_50_3.2.2.2.2.2.2.2.2.2.2.2
set_option maxRecDepth 100000 in
theorem db_cX11_least_dX11_least_67_4 : (decode cX11_least 67 = .ok (.imul, 1)) ∧ (decode cX11_least 68 = .ok (.iload 6, 2)) ∧ (decode cX11_least 70 = .ok (.iadd, 1)) ∧ (decode cX11_least 71 = .ok (.iaload, 1)) ∧ (decode cX11_least 72 = .ok (.istore 7, 2)) ∧ (decode cX11_least 74 = .ok (.iconst 0, 1)) ∧ (decode cX11_least 75 = .ok (.istore 8, 2)) ∧ (decode cX11_least 77 = .ok (.iload 8, 2)) ∧ (decode cX11_least 79 = .ok (.iload 4, 2)) ∧ (decode cX11_least 81 = .ok (.if_icmp .ge 22, 3)) ∧ (decode cX11_least 84 = .ok (.aload_n 1, 1)) ∧ (decode cX11_least 85 = .ok (.aload_n 2, 1)) := by decide +kernel
def dX11_least_67 := db_cX11_least_dX11_least_67_4.1
def dX11_least_68 := db_cX11_least_dX11_least_67_4.2.1
def dX11_least_70 := db_cX11_least_dX11_least_67_4.2.2.1
def dX11_least_71 := db_cX11_least_dX11_least_67_4.2.2.2.1
def dX11_least_72 := db_cX11_least_dX11_least_67_4.2.2.2.2.1
def dX11_least_74 := db_cX11_least_dX11_least_67_4.2.2.2.2.2.1
def dX11_least_75 := db_cX11_least_dX11_least_67_4.2.2.2.2.2.2.1
def dX11_least_77 := db_cX11_least_dX11_least_67_4.2.2.2.2.2.2.2.1
def dX11_least_79 := db_cX11_least_dX11_least_67_4.2.2.2.2.2.2.2.2.1
def dX11_least_81 := db_cX11_least_dX11_least_67_4.2.2.2.2.2.2.2.2.2.1
def dX11_least_84 := db_cX11_least_dX11_least_67_4.2.2.2.2.2.2.2.2.2.2.1
def dX11_least_85 := db_cX11_least_dX11_least_67_4.2.2.2.2.2.2.2.2.2.2.2
set_option maxRecDepth 100000 in
theorem db_cX11_least_dX11_least_86_5 : (decode cX11_least 86 = .ok (.iload 8, 2)) ∧ (decode cX11_least 88 = .ok (.iaload, 1)) ∧ (decode cX11_least 89 = .ok (.iaload, 1)) ∧ (decode cX11_least 90 = .ok (.aload_n 1, 1)) ∧ (decode cX11_least 91 = .ok (.iload 7, 2)) ∧ (decode cX11_least 93 = .ok (.iaload, 1)) ∧ (decode cX11_least 94 = .ok (.if_icmp .eq 9, 3)) ∧ (decode cX11_least 97 = .ok (.iinc 8 1, 3)) ∧ (decode cX11_least 100 = .ok (.goto (-23), 3)) ∧ (decode cX11_least 103 = .ok (.iload 8, 2)) ∧ (decode cX11_least 105 = .ok (.iload 4, 2)) ∧ (decode cX11_least 107 = .ok (.if_icmp .ne 12, 3)) := by decide +kernel
def dX11_least_86 := db_cX11_least_dX11_least_86_5.1
def dX11_least_88 := db_cX11_least_dX11_least_86_5.2.1
def dX11_least_89 := db_cX11_least_dX11_least_86_5.2.2.1
def dX11_least_90 := db_cX11_least_dX11_least_86_5.2.2.2.1
def dX11_least_91 := db_cX11_least_dX11_least_86_5.2.2.2.2.1
def dX11_least_93 := db_cX11_least_dX11_least_86_5.2.2.2.2.2.1
def dX11_least_94 := db_cX11_least_dX11_least_86_5.2.2.2.2.2.2.1
def dX11_least_97 := db_cX11_least_dX11_least_86_5.2.2.2.2.2.2.2.1
def dX11_least_100 := db_cX11_least_dX11_least_86_5.2.2.2.2.2.2.2.2.1
def dX11_least_103 := db_cX11_least_dX11_least_86_5.2.2.2.2.2.2.2.2.2.1
def dX11_least_105 := db_cX11_least_dX11_least_86_5.2.2.2.2.2.2.2.2.2.2.1
def dX11_least_107 := db_cX11_least_dX11_least_86_5.2.2.2.2.2.2.2.2.2.2.2
set_option maxRecDepth 100000 in
theorem db_cX11_least_dX11_least_110_6 : (decode cX11_least 110 = .ok (.aload_n 2, 1)) ∧ (decode cX11_least 111 = .ok (.iload 4, 2)) ∧ (decode cX11_least 113 = .ok (.iinc 4 1, 3)) ∧ (decode cX11_least 116 = .ok (.iload 7, 2)) ∧ (decode cX11_least 118 = .ok (.iastore, 1)) ∧ (decode cX11_least 119 = .ok (.aload_n 3, 1)) ∧ (decode cX11_least 120 = .ok (.iconst 4, 1)) ∧ (decode cX11_least 121 = .ok (.iload 5, 2)) ∧ (decode cX11_least 123 = .ok (.imul, 1)) ∧ (decode cX11_least 124 = .ok (.iload 6, 2)) ∧ (decode cX11_least 126 = .ok (.iadd, 1)) ∧ (decode cX11_least 127 = .ok (.iload 8, 2)) := by decide +kernel
def dX11_least_110 := db_cX11_least_dX11_least_110_6.1
def dX11_least_111 := db_cX11_least_dX11_least_110_6.2.1
def dX11_least_113 := db_cX11_least_dX11_least_110_6.2.2.1
def dX11_least_116 := db_cX11_least_dX11_least_110_6.2.2.2.1
def dX11_least_118 := db_cX11_least_dX11_least_110_6.2.2.2.2.1
def dX11_least_119 := db_cX11_least_dX11_least_110_6.2.2.2.2.2.1
def dX11_least_120 := db_cX11_least_dX11_least_110_6.2.2.2.2.2.2.1
def dX11_least_121 := db_cX11_least_dX11_least_110_6.2.2.2.2.2.2.2.1
def dX11_least_123 := db_cX11_least_dX11_least_110_6.2.2.2.2.2.2.2.2.1
def dX11_least_124 := db_cX11_least_dX11_least_110_6.2.2.2.2.2.2.2.2.2.1
def dX11_least_126 := db_cX11_least_dX11_least_110_6.2.2.2.2.2.2.2.2.2.2.1
def dX11_least_127 := db_cX11_least_dX11_least_110_6.2.2.2.2.2.2.2.2.2.2.2
set_option maxRecDepth 100000 in
theorem db_cX11_least_dX11_least_129_7 : (decode cX11_least 129 = .ok (.iastore, 1)) ∧ (decode cX11_least 130 = .ok (.iinc 6 1, 3)) ∧ (decode cX11_least 133 = .ok (.goto (-78), 3)) ∧ (decode cX11_least 136 = .ok (.iinc 5 1, 3)) ∧ (decode cX11_least 139 = .ok (.goto (-112), 3)) ∧ (decode cX11_least 142 = .ok (.aload_n 3, 1)) ∧ (decode cX11_least 143 = .ok (.iconst 4, 1)) ∧ (decode cX11_least 144 = .ok (.iload 4, 2)) ∧ (decode cX11_least 146 = .ok (.imul, 1)) ∧ (decode cX11_least 147 = .ok (.invokestatic 50, 3)) ∧ (decode cX11_least 150 = .ok (.areturn, 1)) := by decide +kernel
def dX11_least_129 := db_cX11_least_dX11_least_129_7.1
def dX11_least_130 := db_cX11_least_dX11_least_129_7.2.1
def dX11_least_133 := db_cX11_least_dX11_least_129_7.2.2.1
def dX11_least_136 := db_cX11_least_dX11_least_129_7.2.2.2.1
def dX11_least_139 := db_cX11_least_dX11_least_129_7.2.2.2.2.1
def dX11_least_142 := db_cX11_least_dX11_least_129_7.2.2.2.2.2.1
def dX11_least_143 := db_cX11_least_dX11_least_129_7.2.2.2.2.2.2.1
def dX11_least_144 := db_cX11_least_dX11_least_129_7.2.2.2.2.2.2.2.1
def dX11_least_146 := db_cX11_least_dX11_least_129_7.2.2.2.2.2.2.2.2.1
def dX11_least_147 := db_cX11_least_dX11_least_129_7.2.2.2.2.2.2.2.2.2.1
def dX11_least_150 := db_cX11_least_dX11_least_129_7.2.2.2.2.2.2.2.2.2.2
set_option maxRecDepth 100000 in
theorem db_cX11_turnedTwice_dX11_turnedTwice_0_0 : (decode cX11_turnedTwice 0 = .ok (.aload_n 0, 1)) ∧ (decode cX11_turnedTwice 1 = .ok (.iload_n 1, 1)) ∧ (decode cX11_turnedTwice 2 = .ok (.invokevirtual 54, 3)) ∧ (decode cX11_turnedTwice 5 = .ok (.aload_n 0, 1)) ∧ (decode cX11_turnedTwice 6 = .ok (.getfield 7, 3)) ∧ (decode cX11_turnedTwice 9 = .ok (.iload_n 1, 1)) ∧ (decode cX11_turnedTwice 10 = .ok (.iaload, 1)) ∧ (decode cX11_turnedTwice 11 = .ok (.aload_n 0, 1)) ∧ (decode cX11_turnedTwice 12 = .ok (.getfield 13, 3)) ∧ (decode cX11_turnedTwice 15 = .ok (.iload_n 1, 1)) ∧ (decode cX11_turnedTwice 16 = .ok (.iaload, 1)) ∧ (decode cX11_turnedTwice 17 = .ok (.i2l, 1)) := by decide +kernel
def dX11_turnedTwice_0 := db_cX11_turnedTwice_dX11_turnedTwice_0_0.1
def dX11_turnedTwice_1 := db_cX11_turnedTwice_dX11_turnedTwice_0_0.2.1
def dX11_turnedTwice_2 := db_cX11_turnedTwice_dX11_turnedTwice_0_0.2.2.1
def dX11_turnedTwice_5 := db_cX11_turnedTwice_dX11_turnedTwice_0_0.2.2.2.1
def dX11_turnedTwice_6 := db_cX11_turnedTwice_dX11_turnedTwice_0_0.2.2.2.2.1
def dX11_turnedTwice_9 := db_cX11_turnedTwice_dX11_turnedTwice_0_0.2.2.2.2.2.1
def dX11_turnedTwice_10 := db_cX11_turnedTwice_dX11_turnedTwice_0_0.2.2.2.2.2.2.1
def dX11_turnedTwice_11 := db_cX11_turnedTwice_dX11_turnedTwice_0_0.2.2.2.2.2.2.2.1
def dX11_turnedTwice_12 := db_cX11_turnedTwice_dX11_turnedTwice_0_0.2.2.2.2.2.2.2.2.1
def dX11_turnedTwice_15 := db_cX11_turnedTwice_dX11_turnedTwice_0_0.2.2.2.2.2.2.2.2.2.1
def dX11_turnedTwice_16 := db_cX11_turnedTwice_dX11_turnedTwice_0_0.2.2.2.2.2.2.2.2.2.2.1
def dX11_turnedTwice_17 := db_cX11_turnedTwice_dX11_turnedTwice_0_0.2.2.2.2.2.2.2.2.2.2.2
set_option maxRecDepth 100000 in
theorem db_cX11_turnedTwice_dX11_turnedTwice_18_1 : (decode cX11_turnedTwice 18 = .ok (.aload_n 0, 1)) ∧ (decode cX11_turnedTwice 19 = .ok (.getfield 16, 3)) ∧ (decode cX11_turnedTwice 22 = .ok (.iload_n 1, 1)) ∧ (decode cX11_turnedTwice 23 = .ok (.iaload, 1)) ∧ (decode cX11_turnedTwice 24 = .ok (.i2l, 1)) ∧ (decode cX11_turnedTwice 25 = .ok (.iconst 1, 1)) ∧ (decode cX11_turnedTwice 26 = .ok (.invokestatic 58, 3)) ∧ (decode cX11_turnedTwice 29 = .ok (.astore_n 2, 1)) ∧ (decode cX11_turnedTwice 30 = .ok (.aload_n 2, 1)) ∧ (decode cX11_turnedTwice 31 = .ok (.ifnonnull 5, 3)) ∧ (decode cX11_turnedTwice 34 = .ok (.aconst_null, 1)) ∧ (decode cX11_turnedTwice 35 = .ok (.areturn, 1)) := by decide +kernel
def dX11_turnedTwice_18 := db_cX11_turnedTwice_dX11_turnedTwice_18_1.1
def dX11_turnedTwice_19 := db_cX11_turnedTwice_dX11_turnedTwice_18_1.2.1
def dX11_turnedTwice_22 := db_cX11_turnedTwice_dX11_turnedTwice_18_1.2.2.1
def dX11_turnedTwice_23 := db_cX11_turnedTwice_dX11_turnedTwice_18_1.2.2.2.1
def dX11_turnedTwice_24 := db_cX11_turnedTwice_dX11_turnedTwice_18_1.2.2.2.2.1
def dX11_turnedTwice_25 := db_cX11_turnedTwice_dX11_turnedTwice_18_1.2.2.2.2.2.1
def dX11_turnedTwice_26 := db_cX11_turnedTwice_dX11_turnedTwice_18_1.2.2.2.2.2.2.1
def dX11_turnedTwice_29 := db_cX11_turnedTwice_dX11_turnedTwice_18_1.2.2.2.2.2.2.2.1
def dX11_turnedTwice_30 := db_cX11_turnedTwice_dX11_turnedTwice_18_1.2.2.2.2.2.2.2.2.1
def dX11_turnedTwice_31 := db_cX11_turnedTwice_dX11_turnedTwice_18_1.2.2.2.2.2.2.2.2.2.1
def dX11_turnedTwice_34 := db_cX11_turnedTwice_dX11_turnedTwice_18_1.2.2.2.2.2.2.2.2.2.2.1
def dX11_turnedTwice_35 := db_cX11_turnedTwice_dX11_turnedTwice_18_1.2.2.2.2.2.2.2.2.2.2.2
set_option maxRecDepth 100000 in
theorem db_cX11_turnedTwice_dX11_turnedTwice_36_2 : (decode cX11_turnedTwice 36 = .ok (.aload_n 2, 1)) ∧ (decode cX11_turnedTwice 37 = .ok (.arraylength, 1)) ∧ (decode cX11_turnedTwice 38 = .ok (.iconst 4, 1)) ∧ (decode cX11_turnedTwice 39 = .ok (.idiv, 1)) ∧ (decode cX11_turnedTwice 40 = .ok (.istore_n 3, 1)) ∧ (decode cX11_turnedTwice 41 = .ok (.iconst 3, 1)) ∧ (decode cX11_turnedTwice 42 = .ok (.iload_n 3, 1)) ∧ (decode cX11_turnedTwice 43 = .ok (.imul, 1)) ∧ (decode cX11_turnedTwice 44 = .ok (.newarray .long, 2)) ∧ (decode cX11_turnedTwice 46 = .ok (.astore 4, 2)) ∧ (decode cX11_turnedTwice 48 = .ok (.lconst 0, 1)) ∧ (decode cX11_turnedTwice 49 = .ok (.lstore 5, 2)) := by decide +kernel
def dX11_turnedTwice_36 := db_cX11_turnedTwice_dX11_turnedTwice_36_2.1
def dX11_turnedTwice_37 := db_cX11_turnedTwice_dX11_turnedTwice_36_2.2.1
def dX11_turnedTwice_38 := db_cX11_turnedTwice_dX11_turnedTwice_36_2.2.2.1
def dX11_turnedTwice_39 := db_cX11_turnedTwice_dX11_turnedTwice_36_2.2.2.2.1
def dX11_turnedTwice_40 := db_cX11_turnedTwice_dX11_turnedTwice_36_2.2.2.2.2.1
def dX11_turnedTwice_41 := db_cX11_turnedTwice_dX11_turnedTwice_36_2.2.2.2.2.2.1
def dX11_turnedTwice_42 := db_cX11_turnedTwice_dX11_turnedTwice_36_2.2.2.2.2.2.2.1
def dX11_turnedTwice_43 := db_cX11_turnedTwice_dX11_turnedTwice_36_2.2.2.2.2.2.2.2.1
def dX11_turnedTwice_44 := db_cX11_turnedTwice_dX11_turnedTwice_36_2.2.2.2.2.2.2.2.2.1
def dX11_turnedTwice_46 := db_cX11_turnedTwice_dX11_turnedTwice_36_2.2.2.2.2.2.2.2.2.2.1
def dX11_turnedTwice_48 := db_cX11_turnedTwice_dX11_turnedTwice_36_2.2.2.2.2.2.2.2.2.2.2.1
def dX11_turnedTwice_49 := db_cX11_turnedTwice_dX11_turnedTwice_36_2.2.2.2.2.2.2.2.2.2.2.2
set_option maxRecDepth 100000 in
theorem db_cX11_turnedTwice_dX11_turnedTwice_51_3 : (decode cX11_turnedTwice 51 = .ok (.iconst 0, 1)) ∧ (decode cX11_turnedTwice 52 = .ok (.istore 7, 2)) ∧ (decode cX11_turnedTwice 54 = .ok (.iload 7, 2)) ∧ (decode cX11_turnedTwice 56 = .ok (.iload_n 3, 1)) ∧ (decode cX11_turnedTwice 57 = .ok (.if_icmp .ge 66, 3)) ∧ (decode cX11_turnedTwice 60 = .ok (.iconst 0, 1)) ∧ (decode cX11_turnedTwice 61 = .ok (.istore 8, 2)) ∧ (decode cX11_turnedTwice 63 = .ok (.iload 8, 2)) ∧ (decode cX11_turnedTwice 65 = .ok (.iconst 3, 1)) ∧ (decode cX11_turnedTwice 66 = .ok (.if_icmp .ge 30, 3)) ∧ (decode cX11_turnedTwice 69 = .ok (.aload 4, 2)) ∧ (decode cX11_turnedTwice 71 = .ok (.iconst 3, 1)) := by decide +kernel
def dX11_turnedTwice_51 := db_cX11_turnedTwice_dX11_turnedTwice_51_3.1
def dX11_turnedTwice_52 := db_cX11_turnedTwice_dX11_turnedTwice_51_3.2.1
def dX11_turnedTwice_54 := db_cX11_turnedTwice_dX11_turnedTwice_51_3.2.2.1
def dX11_turnedTwice_56 := db_cX11_turnedTwice_dX11_turnedTwice_51_3.2.2.2.1
def dX11_turnedTwice_57 := db_cX11_turnedTwice_dX11_turnedTwice_51_3.2.2.2.2.1
def dX11_turnedTwice_60 := db_cX11_turnedTwice_dX11_turnedTwice_51_3.2.2.2.2.2.1
def dX11_turnedTwice_61 := db_cX11_turnedTwice_dX11_turnedTwice_51_3.2.2.2.2.2.2.1
def dX11_turnedTwice_63 := db_cX11_turnedTwice_dX11_turnedTwice_51_3.2.2.2.2.2.2.2.1
def dX11_turnedTwice_65 := db_cX11_turnedTwice_dX11_turnedTwice_51_3.2.2.2.2.2.2.2.2.1
def dX11_turnedTwice_66 := db_cX11_turnedTwice_dX11_turnedTwice_51_3.2.2.2.2.2.2.2.2.2.1
def dX11_turnedTwice_69 := db_cX11_turnedTwice_dX11_turnedTwice_51_3.2.2.2.2.2.2.2.2.2.2.1
def dX11_turnedTwice_71 := db_cX11_turnedTwice_dX11_turnedTwice_51_3.2.2.2.2.2.2.2.2.2.2.2
set_option maxRecDepth 100000 in
theorem db_cX11_turnedTwice_dX11_turnedTwice_72_4 : (decode cX11_turnedTwice 72 = .ok (.iload 7, 2)) ∧ (decode cX11_turnedTwice 74 = .ok (.imul, 1)) ∧ (decode cX11_turnedTwice 75 = .ok (.iload 8, 2)) ∧ (decode cX11_turnedTwice 77 = .ok (.iadd, 1)) ∧ (decode cX11_turnedTwice 78 = .ok (.lconst 1, 1)) ∧ (decode cX11_turnedTwice 79 = .ok (.aload_n 2, 1)) ∧ (decode cX11_turnedTwice 80 = .ok (.iconst 4, 1)) ∧ (decode cX11_turnedTwice 81 = .ok (.iload 7, 2)) ∧ (decode cX11_turnedTwice 83 = .ok (.imul, 1)) ∧ (decode cX11_turnedTwice 84 = .ok (.iload 8, 2)) ∧ (decode cX11_turnedTwice 86 = .ok (.iadd, 1)) ∧ (decode cX11_turnedTwice 87 = .ok (.iaload, 1)) := by decide +kernel
def dX11_turnedTwice_72 := db_cX11_turnedTwice_dX11_turnedTwice_72_4.1
def dX11_turnedTwice_74 := db_cX11_turnedTwice_dX11_turnedTwice_72_4.2.1
def dX11_turnedTwice_75 := db_cX11_turnedTwice_dX11_turnedTwice_72_4.2.2.1
def dX11_turnedTwice_77 := db_cX11_turnedTwice_dX11_turnedTwice_72_4.2.2.2.1
def dX11_turnedTwice_78 := db_cX11_turnedTwice_dX11_turnedTwice_72_4.2.2.2.2.1
def dX11_turnedTwice_79 := db_cX11_turnedTwice_dX11_turnedTwice_72_4.2.2.2.2.2.1
def dX11_turnedTwice_80 := db_cX11_turnedTwice_dX11_turnedTwice_72_4.2.2.2.2.2.2.1
def dX11_turnedTwice_81 := db_cX11_turnedTwice_dX11_turnedTwice_72_4.2.2.2.2.2.2.2.1
def dX11_turnedTwice_83 := db_cX11_turnedTwice_dX11_turnedTwice_72_4.2.2.2.2.2.2.2.2.1
def dX11_turnedTwice_84 := db_cX11_turnedTwice_dX11_turnedTwice_72_4.2.2.2.2.2.2.2.2.2.1
def dX11_turnedTwice_86 := db_cX11_turnedTwice_dX11_turnedTwice_72_4.2.2.2.2.2.2.2.2.2.2.1
def dX11_turnedTwice_87 := db_cX11_turnedTwice_dX11_turnedTwice_72_4.2.2.2.2.2.2.2.2.2.2.2
set_option maxRecDepth 100000 in
theorem db_cX11_turnedTwice_dX11_turnedTwice_88_5 : (decode cX11_turnedTwice 88 = .ok (.lshl, 1)) ∧ (decode cX11_turnedTwice 89 = .ok (.lastore, 1)) ∧ (decode cX11_turnedTwice 90 = .ok (.iinc 8 1, 3)) ∧ (decode cX11_turnedTwice 93 = .ok (.goto (-30), 3)) ∧ (decode cX11_turnedTwice 96 = .ok (.aload_n 2, 1)) ∧ (decode cX11_turnedTwice 97 = .ok (.iconst 4, 1)) ∧ (decode cX11_turnedTwice 98 = .ok (.iload 7, 2)) ∧ (decode cX11_turnedTwice 100 = .ok (.imul, 1)) ∧ (decode cX11_turnedTwice 101 = .ok (.iconst 3, 1)) ∧ (decode cX11_turnedTwice 102 = .ok (.iadd, 1)) ∧ (decode cX11_turnedTwice 103 = .ok (.iaload, 1)) ∧ (decode cX11_turnedTwice 104 = .ok (.iconst 1, 1)) := by decide +kernel
def dX11_turnedTwice_88 := db_cX11_turnedTwice_dX11_turnedTwice_88_5.1
def dX11_turnedTwice_89 := db_cX11_turnedTwice_dX11_turnedTwice_88_5.2.1
def dX11_turnedTwice_90 := db_cX11_turnedTwice_dX11_turnedTwice_88_5.2.2.1
def dX11_turnedTwice_93 := db_cX11_turnedTwice_dX11_turnedTwice_88_5.2.2.2.1
def dX11_turnedTwice_96 := db_cX11_turnedTwice_dX11_turnedTwice_88_5.2.2.2.2.1
def dX11_turnedTwice_97 := db_cX11_turnedTwice_dX11_turnedTwice_88_5.2.2.2.2.2.1
def dX11_turnedTwice_98 := db_cX11_turnedTwice_dX11_turnedTwice_88_5.2.2.2.2.2.2.1
def dX11_turnedTwice_100 := db_cX11_turnedTwice_dX11_turnedTwice_88_5.2.2.2.2.2.2.2.1
def dX11_turnedTwice_101 := db_cX11_turnedTwice_dX11_turnedTwice_88_5.2.2.2.2.2.2.2.2.1
def dX11_turnedTwice_102 := db_cX11_turnedTwice_dX11_turnedTwice_88_5.2.2.2.2.2.2.2.2.2.1
def dX11_turnedTwice_103 := db_cX11_turnedTwice_dX11_turnedTwice_88_5.2.2.2.2.2.2.2.2.2.2.1
def dX11_turnedTwice_104 := db_cX11_turnedTwice_dX11_turnedTwice_88_5.2.2.2.2.2.2.2.2.2.2.2
set_option maxRecDepth 100000 in
theorem db_cX11_turnedTwice_dX11_turnedTwice_105_6 : (decode cX11_turnedTwice 105 = .ok (.if_icmp .ne 12, 3)) ∧ (decode cX11_turnedTwice 108 = .ok (.lload 5, 2)) ∧ (decode cX11_turnedTwice 110 = .ok (.lconst 1, 1)) ∧ (decode cX11_turnedTwice 111 = .ok (.iload 7, 2)) ∧ (decode cX11_turnedTwice 113 = .ok (.lshl, 1)) ∧ (decode cX11_turnedTwice 114 = .ok (.lor, 1)) ∧ (decode cX11_turnedTwice 115 = .ok (.lstore 5, 2)) ∧ (decode cX11_turnedTwice 117 = .ok (.iinc 7 1, 3)) ∧ (decode cX11_turnedTwice 120 = .ok (.goto (-66), 3)) ∧ (decode cX11_turnedTwice 123 = .ok (.aload 4, 2)) ∧ (decode cX11_turnedTwice 125 = .ok (.iload_n 3, 1)) ∧ (decode cX11_turnedTwice 126 = .ok (.lconst 1, 1)) := by decide +kernel
def dX11_turnedTwice_105 := db_cX11_turnedTwice_dX11_turnedTwice_105_6.1
def dX11_turnedTwice_108 := db_cX11_turnedTwice_dX11_turnedTwice_105_6.2.1
def dX11_turnedTwice_110 := db_cX11_turnedTwice_dX11_turnedTwice_105_6.2.2.1
def dX11_turnedTwice_111 := db_cX11_turnedTwice_dX11_turnedTwice_105_6.2.2.2.1
def dX11_turnedTwice_113 := db_cX11_turnedTwice_dX11_turnedTwice_105_6.2.2.2.2.1
def dX11_turnedTwice_114 := db_cX11_turnedTwice_dX11_turnedTwice_105_6.2.2.2.2.2.1
def dX11_turnedTwice_115 := db_cX11_turnedTwice_dX11_turnedTwice_105_6.2.2.2.2.2.2.1
def dX11_turnedTwice_117 := db_cX11_turnedTwice_dX11_turnedTwice_105_6.2.2.2.2.2.2.2.1
def dX11_turnedTwice_120 := db_cX11_turnedTwice_dX11_turnedTwice_105_6.2.2.2.2.2.2.2.2.1
def dX11_turnedTwice_123 := db_cX11_turnedTwice_dX11_turnedTwice_105_6.2.2.2.2.2.2.2.2.2.1
def dX11_turnedTwice_125 := db_cX11_turnedTwice_dX11_turnedTwice_105_6.2.2.2.2.2.2.2.2.2.2.1
def dX11_turnedTwice_126 := db_cX11_turnedTwice_dX11_turnedTwice_105_6.2.2.2.2.2.2.2.2.2.2.2
set_option maxRecDepth 100000 in
theorem db_cX11_turnedTwice_dX11_turnedTwice_127_7 : (decode cX11_turnedTwice 127 = .ok (.lload 5, 2)) ∧ (decode cX11_turnedTwice 129 = .ok (.iconst 1, 1)) ∧ (decode cX11_turnedTwice 130 = .ok (.invokestatic 58, 3)) ∧ (decode cX11_turnedTwice 133 = .ok (.areturn, 1)) := by decide +kernel
def dX11_turnedTwice_127 := db_cX11_turnedTwice_dX11_turnedTwice_127_7.1
def dX11_turnedTwice_129 := db_cX11_turnedTwice_dX11_turnedTwice_127_7.2.1
def dX11_turnedTwice_130 := db_cX11_turnedTwice_dX11_turnedTwice_127_7.2.2.1
def dX11_turnedTwice_133 := db_cX11_turnedTwice_dX11_turnedTwice_127_7.2.2.2
set_option maxRecDepth 100000 in
theorem db_cX11_found_dX11_found_0_0 : (decode cX11_found 0 = .ok (.iload_n 2, 1)) ∧ (decode cX11_found 1 = .ok (.iconst 3, 1)) ∧ (decode cX11_found 2 = .ok (.if_icmp .ne 11, 3)) ∧ (decode cX11_found 5 = .ok (.aload_n 0, 1)) ∧ (decode cX11_found 6 = .ok (.iload_n 1, 1)) ∧ (decode cX11_found 7 = .ok (.invokevirtual 70, 3)) ∧ (decode cX11_found 10 = .ok (.goto 24, 3)) ∧ (decode cX11_found 13 = .ok (.iload_n 2, 1)) ∧ (decode cX11_found 14 = .ok (.iconst 2, 1)) ∧ (decode cX11_found 15 = .ok (.if_icmp .ne 11, 3)) ∧ (decode cX11_found 18 = .ok (.aload_n 0, 1)) ∧ (decode cX11_found 19 = .ok (.iload_n 1, 1)) := by decide +kernel
def dX11_found_0 := db_cX11_found_dX11_found_0_0.1
def dX11_found_1 := db_cX11_found_dX11_found_0_0.2.1
def dX11_found_2 := db_cX11_found_dX11_found_0_0.2.2.1
def dX11_found_5 := db_cX11_found_dX11_found_0_0.2.2.2.1
def dX11_found_6 := db_cX11_found_dX11_found_0_0.2.2.2.2.1
def dX11_found_7 := db_cX11_found_dX11_found_0_0.2.2.2.2.2.1
def dX11_found_10 := db_cX11_found_dX11_found_0_0.2.2.2.2.2.2.1
def dX11_found_13 := db_cX11_found_dX11_found_0_0.2.2.2.2.2.2.2.1
def dX11_found_14 := db_cX11_found_dX11_found_0_0.2.2.2.2.2.2.2.2.1
def dX11_found_15 := db_cX11_found_dX11_found_0_0.2.2.2.2.2.2.2.2.2.1
def dX11_found_18 := db_cX11_found_dX11_found_0_0.2.2.2.2.2.2.2.2.2.2.1
def dX11_found_19 := db_cX11_found_dX11_found_0_0.2.2.2.2.2.2.2.2.2.2.2
set_option maxRecDepth 100000 in
theorem db_cX11_found_dX11_found_20_1 : (decode cX11_found 20 = .ok (.invokevirtual 73, 3)) ∧ (decode cX11_found 23 = .ok (.goto 11, 3)) ∧ (decode cX11_found 26 = .ok (.aload_n 0, 1)) ∧ (decode cX11_found 27 = .ok (.iload_n 1, 1)) ∧ (decode cX11_found 28 = .ok (.invokevirtual 70, 3)) ∧ (decode cX11_found 31 = .ok (.invokestatic 76, 3)) ∧ (decode cX11_found 34 = .ok (.areturn, 1)) := by decide +kernel
def dX11_found_20 := db_cX11_found_dX11_found_20_1.1
def dX11_found_23 := db_cX11_found_dX11_found_20_1.2.1
def dX11_found_26 := db_cX11_found_dX11_found_20_1.2.2.1
def dX11_found_27 := db_cX11_found_dX11_found_20_1.2.2.2.1
def dX11_found_28 := db_cX11_found_dX11_found_20_1.2.2.2.2.1
def dX11_found_31 := db_cX11_found_dX11_found_20_1.2.2.2.2.2.1
def dX11_found_34 := db_cX11_found_dX11_found_20_1.2.2.2.2.2.2
set_option maxRecDepth 100000 in
theorem db_cX11_ways_dX11_ways_0_0 : (decode cX11_ways 0 = .ok (.aload_n 0, 1)) ∧ (decode cX11_ways 1 = .ok (.arraylength, 1)) ∧ (decode cX11_ways 2 = .ok (.iconst 4, 1)) ∧ (decode cX11_ways 3 = .ok (.idiv, 1)) ∧ (decode cX11_ways 4 = .ok (.istore_n 2, 1)) ∧ (decode cX11_ways 5 = .ok (.iload_n 2, 1)) ∧ (decode cX11_ways 6 = .ok (.iload_n 1, 1)) ∧ (decode cX11_ways 7 = .ok (.iconst 1, 1)) ∧ (decode cX11_ways 8 = .ok (.iadd, 1)) ∧ (decode cX11_ways 9 = .ok (.imul, 1)) ∧ (decode cX11_ways 10 = .ok (.newarray .int, 2)) ∧ (decode cX11_ways 12 = .ok (.astore_n 3, 1)) := by decide +kernel
def dX11_ways_0 := db_cX11_ways_dX11_ways_0_0.1
def dX11_ways_1 := db_cX11_ways_dX11_ways_0_0.2.1
def dX11_ways_2 := db_cX11_ways_dX11_ways_0_0.2.2.1
def dX11_ways_3 := db_cX11_ways_dX11_ways_0_0.2.2.2.1
def dX11_ways_4 := db_cX11_ways_dX11_ways_0_0.2.2.2.2.1
def dX11_ways_5 := db_cX11_ways_dX11_ways_0_0.2.2.2.2.2.1
def dX11_ways_6 := db_cX11_ways_dX11_ways_0_0.2.2.2.2.2.2.1
def dX11_ways_7 := db_cX11_ways_dX11_ways_0_0.2.2.2.2.2.2.2.1
def dX11_ways_8 := db_cX11_ways_dX11_ways_0_0.2.2.2.2.2.2.2.2.1
def dX11_ways_9 := db_cX11_ways_dX11_ways_0_0.2.2.2.2.2.2.2.2.2.1
def dX11_ways_10 := db_cX11_ways_dX11_ways_0_0.2.2.2.2.2.2.2.2.2.2.1
def dX11_ways_12 := db_cX11_ways_dX11_ways_0_0.2.2.2.2.2.2.2.2.2.2.2
set_option maxRecDepth 100000 in
theorem db_cX11_ways_dX11_ways_13_1 : (decode cX11_ways 13 = .ok (.iconst 0, 1)) ∧ (decode cX11_ways 14 = .ok (.istore 4, 2)) ∧ (decode cX11_ways 16 = .ok (.iload 4, 2)) ∧ (decode cX11_ways 18 = .ok (.iload_n 1, 1)) ∧ (decode cX11_ways 19 = .ok (.if_icmp .gt 103, 3)) ∧ (decode cX11_ways 22 = .ok (.iconst 0, 1)) ∧ (decode cX11_ways 23 = .ok (.istore 5, 2)) ∧ (decode cX11_ways 25 = .ok (.iload 5, 2)) ∧ (decode cX11_ways 27 = .ok (.iload_n 2, 1)) ∧ (decode cX11_ways 28 = .ok (.if_icmp .ge 88, 3)) ∧ (decode cX11_ways 31 = .ok (.aload_n 0, 1)) ∧ (decode cX11_ways 32 = .ok (.iconst 4, 1)) := by decide +kernel
def dX11_ways_13 := db_cX11_ways_dX11_ways_13_1.1
def dX11_ways_14 := db_cX11_ways_dX11_ways_13_1.2.1
def dX11_ways_16 := db_cX11_ways_dX11_ways_13_1.2.2.1
def dX11_ways_18 := db_cX11_ways_dX11_ways_13_1.2.2.2.1
def dX11_ways_19 := db_cX11_ways_dX11_ways_13_1.2.2.2.2.1
def dX11_ways_22 := db_cX11_ways_dX11_ways_13_1.2.2.2.2.2.1
def dX11_ways_23 := db_cX11_ways_dX11_ways_13_1.2.2.2.2.2.2.1
def dX11_ways_25 := db_cX11_ways_dX11_ways_13_1.2.2.2.2.2.2.2.1
def dX11_ways_27 := db_cX11_ways_dX11_ways_13_1.2.2.2.2.2.2.2.2.1
def dX11_ways_28 := db_cX11_ways_dX11_ways_13_1.2.2.2.2.2.2.2.2.2.1
def dX11_ways_31 := db_cX11_ways_dX11_ways_13_1.2.2.2.2.2.2.2.2.2.2.1
def dX11_ways_32 := db_cX11_ways_dX11_ways_13_1.2.2.2.2.2.2.2.2.2.2.2
set_option maxRecDepth 100000 in
theorem db_cX11_ways_dX11_ways_33_2 : (decode cX11_ways 33 = .ok (.iload 5, 2)) ∧ (decode cX11_ways 35 = .ok (.imul, 1)) ∧ (decode cX11_ways 36 = .ok (.iconst 3, 1)) ∧ (decode cX11_ways 37 = .ok (.iadd, 1)) ∧ (decode cX11_ways 38 = .ok (.iaload, 1)) ∧ (decode cX11_ways 39 = .ok (.istore 6, 2)) ∧ (decode cX11_ways 41 = .ok (.iload 4, 2)) ∧ (decode cX11_ways 43 = .ok (.ifCond .le 56, 3)) ∧ (decode cX11_ways 46 = .ok (.aload_n 3, 1)) ∧ (decode cX11_ways 47 = .ok (.iload 4, 2)) ∧ (decode cX11_ways 49 = .ok (.iconst 1, 1)) ∧ (decode cX11_ways 50 = .ok (.isub, 1)) := by decide +kernel
def dX11_ways_33 := db_cX11_ways_dX11_ways_33_2.1
def dX11_ways_35 := db_cX11_ways_dX11_ways_33_2.2.1
def dX11_ways_36 := db_cX11_ways_dX11_ways_33_2.2.2.1
def dX11_ways_37 := db_cX11_ways_dX11_ways_33_2.2.2.2.1
def dX11_ways_38 := db_cX11_ways_dX11_ways_33_2.2.2.2.2.1
def dX11_ways_39 := db_cX11_ways_dX11_ways_33_2.2.2.2.2.2.1
def dX11_ways_41 := db_cX11_ways_dX11_ways_33_2.2.2.2.2.2.2.1
def dX11_ways_43 := db_cX11_ways_dX11_ways_33_2.2.2.2.2.2.2.2.1
def dX11_ways_46 := db_cX11_ways_dX11_ways_33_2.2.2.2.2.2.2.2.2.1
def dX11_ways_47 := db_cX11_ways_dX11_ways_33_2.2.2.2.2.2.2.2.2.2.1
def dX11_ways_49 := db_cX11_ways_dX11_ways_33_2.2.2.2.2.2.2.2.2.2.2.1
def dX11_ways_50 := db_cX11_ways_dX11_ways_33_2.2.2.2.2.2.2.2.2.2.2.2
set_option maxRecDepth 100000 in
theorem db_cX11_ways_dX11_ways_51_3 : (decode cX11_ways 51 = .ok (.iload_n 2, 1)) ∧ (decode cX11_ways 52 = .ok (.imul, 1)) ∧ (decode cX11_ways 53 = .ok (.aload_n 0, 1)) ∧ (decode cX11_ways 54 = .ok (.iconst 4, 1)) ∧ (decode cX11_ways 55 = .ok (.iload 5, 2)) ∧ (decode cX11_ways 57 = .ok (.imul, 1)) ∧ (decode cX11_ways 58 = .ok (.iaload, 1)) ∧ (decode cX11_ways 59 = .ok (.iadd, 1)) ∧ (decode cX11_ways 60 = .ok (.iaload, 1)) ∧ (decode cX11_ways 61 = .ok (.aload_n 3, 1)) ∧ (decode cX11_ways 62 = .ok (.iload 4, 2)) ∧ (decode cX11_ways 64 = .ok (.iconst 1, 1)) := by decide +kernel
def dX11_ways_51 := db_cX11_ways_dX11_ways_51_3.1
def dX11_ways_52 := db_cX11_ways_dX11_ways_51_3.2.1
def dX11_ways_53 := db_cX11_ways_dX11_ways_51_3.2.2.1
def dX11_ways_54 := db_cX11_ways_dX11_ways_51_3.2.2.2.1
def dX11_ways_55 := db_cX11_ways_dX11_ways_51_3.2.2.2.2.1
def dX11_ways_57 := db_cX11_ways_dX11_ways_51_3.2.2.2.2.2.1
def dX11_ways_58 := db_cX11_ways_dX11_ways_51_3.2.2.2.2.2.2.1
def dX11_ways_59 := db_cX11_ways_dX11_ways_51_3.2.2.2.2.2.2.2.1
def dX11_ways_60 := db_cX11_ways_dX11_ways_51_3.2.2.2.2.2.2.2.2.1
def dX11_ways_61 := db_cX11_ways_dX11_ways_51_3.2.2.2.2.2.2.2.2.2.1
def dX11_ways_62 := db_cX11_ways_dX11_ways_51_3.2.2.2.2.2.2.2.2.2.2.1
def dX11_ways_64 := db_cX11_ways_dX11_ways_51_3.2.2.2.2.2.2.2.2.2.2.2
set_option maxRecDepth 100000 in
theorem db_cX11_ways_dX11_ways_65_4 : (decode cX11_ways 65 = .ok (.isub, 1)) ∧ (decode cX11_ways 66 = .ok (.iload_n 2, 1)) ∧ (decode cX11_ways 67 = .ok (.imul, 1)) ∧ (decode cX11_ways 68 = .ok (.aload_n 0, 1)) ∧ (decode cX11_ways 69 = .ok (.iconst 4, 1)) ∧ (decode cX11_ways 70 = .ok (.iload 5, 2)) ∧ (decode cX11_ways 72 = .ok (.imul, 1)) ∧ (decode cX11_ways 73 = .ok (.iconst 1, 1)) ∧ (decode cX11_ways 74 = .ok (.iadd, 1)) ∧ (decode cX11_ways 75 = .ok (.iaload, 1)) ∧ (decode cX11_ways 76 = .ok (.iadd, 1)) ∧ (decode cX11_ways 77 = .ok (.iaload, 1)) := by decide +kernel
def dX11_ways_65 := db_cX11_ways_dX11_ways_65_4.1
def dX11_ways_66 := db_cX11_ways_dX11_ways_65_4.2.1
def dX11_ways_67 := db_cX11_ways_dX11_ways_65_4.2.2.1
def dX11_ways_68 := db_cX11_ways_dX11_ways_65_4.2.2.2.1
def dX11_ways_69 := db_cX11_ways_dX11_ways_65_4.2.2.2.2.1
def dX11_ways_70 := db_cX11_ways_dX11_ways_65_4.2.2.2.2.2.1
def dX11_ways_72 := db_cX11_ways_dX11_ways_65_4.2.2.2.2.2.2.1
def dX11_ways_73 := db_cX11_ways_dX11_ways_65_4.2.2.2.2.2.2.2.1
def dX11_ways_74 := db_cX11_ways_dX11_ways_65_4.2.2.2.2.2.2.2.2.1
def dX11_ways_75 := db_cX11_ways_dX11_ways_65_4.2.2.2.2.2.2.2.2.2.1
def dX11_ways_76 := db_cX11_ways_dX11_ways_65_4.2.2.2.2.2.2.2.2.2.2.1
def dX11_ways_77 := db_cX11_ways_dX11_ways_65_4.2.2.2.2.2.2.2.2.2.2.2
set_option maxRecDepth 100000 in
theorem db_cX11_ways_dX11_ways_78_5 : (decode cX11_ways 78 = .ok (.iadd, 1)) ∧ (decode cX11_ways 79 = .ok (.aload_n 3, 1)) ∧ (decode cX11_ways 80 = .ok (.iload 4, 2)) ∧ (decode cX11_ways 82 = .ok (.iconst 1, 1)) ∧ (decode cX11_ways 83 = .ok (.isub, 1)) ∧ (decode cX11_ways 84 = .ok (.iload_n 2, 1)) ∧ (decode cX11_ways 85 = .ok (.imul, 1)) ∧ (decode cX11_ways 86 = .ok (.aload_n 0, 1)) ∧ (decode cX11_ways 87 = .ok (.iconst 4, 1)) ∧ (decode cX11_ways 88 = .ok (.iload 5, 2)) ∧ (decode cX11_ways 90 = .ok (.imul, 1)) ∧ (decode cX11_ways 91 = .ok (.iconst 2, 1)) := by decide +kernel
def dX11_ways_78 := db_cX11_ways_dX11_ways_78_5.1
def dX11_ways_79 := db_cX11_ways_dX11_ways_78_5.2.1
def dX11_ways_80 := db_cX11_ways_dX11_ways_78_5.2.2.1
def dX11_ways_82 := db_cX11_ways_dX11_ways_78_5.2.2.2.1
def dX11_ways_83 := db_cX11_ways_dX11_ways_78_5.2.2.2.2.1
def dX11_ways_84 := db_cX11_ways_dX11_ways_78_5.2.2.2.2.2.1
def dX11_ways_85 := db_cX11_ways_dX11_ways_78_5.2.2.2.2.2.2.1
def dX11_ways_86 := db_cX11_ways_dX11_ways_78_5.2.2.2.2.2.2.2.1
def dX11_ways_87 := db_cX11_ways_dX11_ways_78_5.2.2.2.2.2.2.2.2.1
def dX11_ways_88 := db_cX11_ways_dX11_ways_78_5.2.2.2.2.2.2.2.2.2.1
def dX11_ways_90 := db_cX11_ways_dX11_ways_78_5.2.2.2.2.2.2.2.2.2.2.1
def dX11_ways_91 := db_cX11_ways_dX11_ways_78_5.2.2.2.2.2.2.2.2.2.2.2
set_option maxRecDepth 100000 in
theorem db_cX11_ways_dX11_ways_92_6 : (decode cX11_ways 92 = .ok (.iadd, 1)) ∧ (decode cX11_ways 93 = .ok (.iaload, 1)) ∧ (decode cX11_ways 94 = .ok (.iadd, 1)) ∧ (decode cX11_ways 95 = .ok (.iaload, 1)) ∧ (decode cX11_ways 96 = .ok (.iadd, 1)) ∧ (decode cX11_ways 97 = .ok (.istore 6, 2)) ∧ (decode cX11_ways 99 = .ok (.aload_n 3, 1)) ∧ (decode cX11_ways 100 = .ok (.iload 4, 2)) ∧ (decode cX11_ways 102 = .ok (.iload_n 2, 1)) ∧ (decode cX11_ways 103 = .ok (.imul, 1)) ∧ (decode cX11_ways 104 = .ok (.iload 5, 2)) ∧ (decode cX11_ways 106 = .ok (.iadd, 1)) := by decide +kernel
def dX11_ways_92 := db_cX11_ways_dX11_ways_92_6.1
def dX11_ways_93 := db_cX11_ways_dX11_ways_92_6.2.1
def dX11_ways_94 := db_cX11_ways_dX11_ways_92_6.2.2.1
def dX11_ways_95 := db_cX11_ways_dX11_ways_92_6.2.2.2.1
def dX11_ways_96 := db_cX11_ways_dX11_ways_92_6.2.2.2.2.1
def dX11_ways_97 := db_cX11_ways_dX11_ways_92_6.2.2.2.2.2.1
def dX11_ways_99 := db_cX11_ways_dX11_ways_92_6.2.2.2.2.2.2.1
def dX11_ways_100 := db_cX11_ways_dX11_ways_92_6.2.2.2.2.2.2.2.1
def dX11_ways_102 := db_cX11_ways_dX11_ways_92_6.2.2.2.2.2.2.2.2.1
def dX11_ways_103 := db_cX11_ways_dX11_ways_92_6.2.2.2.2.2.2.2.2.2.1
def dX11_ways_104 := db_cX11_ways_dX11_ways_92_6.2.2.2.2.2.2.2.2.2.2.1
def dX11_ways_106 := db_cX11_ways_dX11_ways_92_6.2.2.2.2.2.2.2.2.2.2.2
set_option maxRecDepth 100000 in
theorem db_cX11_ways_dX11_ways_107_7 : (decode cX11_ways 107 = .ok (.iload 6, 2)) ∧ (decode cX11_ways 109 = .ok (.iastore, 1)) ∧ (decode cX11_ways 110 = .ok (.iinc 5 1, 3)) ∧ (decode cX11_ways 113 = .ok (.goto (-88), 3)) ∧ (decode cX11_ways 116 = .ok (.iinc 4 1, 3)) ∧ (decode cX11_ways 119 = .ok (.goto (-103), 3)) ∧ (decode cX11_ways 122 = .ok (.aload_n 3, 1)) ∧ (decode cX11_ways 123 = .ok (.areturn, 1)) := by decide +kernel
def dX11_ways_107 := db_cX11_ways_dX11_ways_107_7.1
def dX11_ways_109 := db_cX11_ways_dX11_ways_107_7.2.1
def dX11_ways_110 := db_cX11_ways_dX11_ways_107_7.2.2.1
def dX11_ways_113 := db_cX11_ways_dX11_ways_107_7.2.2.2.1
def dX11_ways_116 := db_cX11_ways_dX11_ways_107_7.2.2.2.2.1
def dX11_ways_119 := db_cX11_ways_dX11_ways_107_7.2.2.2.2.2.1
def dX11_ways_122 := db_cX11_ways_dX11_ways_107_7.2.2.2.2.2.2.1
def dX11_ways_123 := db_cX11_ways_dX11_ways_107_7.2.2.2.2.2.2.2
set_option maxRecDepth 100000 in
theorem db_cX11_isUnlike_dX11_isUnlike_0_0 : (decode cX11_isUnlike 0 = .ok (.aload_n 0, 1)) ∧ (decode cX11_isUnlike 1 = .ok (.iconst 4, 1)) ∧ (decode cX11_isUnlike 2 = .ok (.iload_n 2, 1)) ∧ (decode cX11_isUnlike 3 = .ok (.bipush 32, 2)) ∧ (decode cX11_isUnlike 5 = .ok (.idiv, 1)) ∧ (decode cX11_isUnlike 6 = .ok (.imul, 1)) ∧ (decode cX11_isUnlike 7 = .ok (.iconst 3, 1)) ∧ (decode cX11_isUnlike 8 = .ok (.iadd, 1)) ∧ (decode cX11_isUnlike 9 = .ok (.iaload, 1)) ∧ (decode cX11_isUnlike 10 = .ok (.aload_n 1, 1)) ∧ (decode cX11_isUnlike 11 = .ok (.iconst 4, 1)) ∧ (decode cX11_isUnlike 12 = .ok (.iload_n 2, 1)) := by decide +kernel
def dX11_isUnlike_0 := db_cX11_isUnlike_dX11_isUnlike_0_0.1
def dX11_isUnlike_1 := db_cX11_isUnlike_dX11_isUnlike_0_0.2.1
def dX11_isUnlike_2 := db_cX11_isUnlike_dX11_isUnlike_0_0.2.2.1
def dX11_isUnlike_3 := db_cX11_isUnlike_dX11_isUnlike_0_0.2.2.2.1
def dX11_isUnlike_5 := db_cX11_isUnlike_dX11_isUnlike_0_0.2.2.2.2.1
def dX11_isUnlike_6 := db_cX11_isUnlike_dX11_isUnlike_0_0.2.2.2.2.2.1
def dX11_isUnlike_7 := db_cX11_isUnlike_dX11_isUnlike_0_0.2.2.2.2.2.2.1
def dX11_isUnlike_8 := db_cX11_isUnlike_dX11_isUnlike_0_0.2.2.2.2.2.2.2.1
def dX11_isUnlike_9 := db_cX11_isUnlike_dX11_isUnlike_0_0.2.2.2.2.2.2.2.2.1
def dX11_isUnlike_10 := db_cX11_isUnlike_dX11_isUnlike_0_0.2.2.2.2.2.2.2.2.2.1
def dX11_isUnlike_11 := db_cX11_isUnlike_dX11_isUnlike_0_0.2.2.2.2.2.2.2.2.2.2.1
def dX11_isUnlike_12 := db_cX11_isUnlike_dX11_isUnlike_0_0.2.2.2.2.2.2.2.2.2.2.2
set_option maxRecDepth 100000 in
theorem db_cX11_isUnlike_dX11_isUnlike_13_1 : (decode cX11_isUnlike 13 = .ok (.bipush 32, 2)) ∧ (decode cX11_isUnlike 15 = .ok (.irem, 1)) ∧ (decode cX11_isUnlike 16 = .ok (.imul, 1)) ∧ (decode cX11_isUnlike 17 = .ok (.iconst 3, 1)) ∧ (decode cX11_isUnlike 18 = .ok (.iadd, 1)) ∧ (decode cX11_isUnlike 19 = .ok (.iaload, 1)) ∧ (decode cX11_isUnlike 20 = .ok (.if_icmp .eq 7, 3)) ∧ (decode cX11_isUnlike 23 = .ok (.iconst 1, 1)) ∧ (decode cX11_isUnlike 24 = .ok (.goto 4, 3)) ∧ (decode cX11_isUnlike 27 = .ok (.iconst 0, 1)) ∧ (decode cX11_isUnlike 28 = .ok (.ireturn, 1)) := by decide +kernel
def dX11_isUnlike_13 := db_cX11_isUnlike_dX11_isUnlike_13_1.1
def dX11_isUnlike_15 := db_cX11_isUnlike_dX11_isUnlike_13_1.2.1
def dX11_isUnlike_16 := db_cX11_isUnlike_dX11_isUnlike_13_1.2.2.1
def dX11_isUnlike_17 := db_cX11_isUnlike_dX11_isUnlike_13_1.2.2.2.1
def dX11_isUnlike_18 := db_cX11_isUnlike_dX11_isUnlike_13_1.2.2.2.2.1
def dX11_isUnlike_19 := db_cX11_isUnlike_dX11_isUnlike_13_1.2.2.2.2.2.1
def dX11_isUnlike_20 := db_cX11_isUnlike_dX11_isUnlike_13_1.2.2.2.2.2.2.1
def dX11_isUnlike_23 := db_cX11_isUnlike_dX11_isUnlike_13_1.2.2.2.2.2.2.2.1
def dX11_isUnlike_24 := db_cX11_isUnlike_dX11_isUnlike_13_1.2.2.2.2.2.2.2.2.1
def dX11_isUnlike_27 := db_cX11_isUnlike_dX11_isUnlike_13_1.2.2.2.2.2.2.2.2.2.1
def dX11_isUnlike_28 := db_cX11_isUnlike_dX11_isUnlike_13_1.2.2.2.2.2.2.2.2.2.2
set_option maxRecDepth 100000 in
theorem db_cX11_met_dX11_met_0_0 : (decode cX11_met 0 = .ok (.iconst 3, 1)) ∧ (decode cX11_met 1 = .ok (.iload_n 2, 1)) ∧ (decode cX11_met 2 = .ok (.iconst 1, 1)) ∧ (decode cX11_met 3 = .ok (.iadd, 1)) ∧ (decode cX11_met 4 = .ok (.imul, 1)) ∧ (decode cX11_met 5 = .ok (.iconst 1, 1)) ∧ (decode cX11_met 6 = .ok (.iadd, 1)) ∧ (decode cX11_met 7 = .ok (.newarray .int, 2)) ∧ (decode cX11_met 9 = .ok (.astore 4, 2)) ∧ (decode cX11_met 11 = .ok (.iconst 1, 1)) ∧ (decode cX11_met 12 = .ok (.istore 5, 2)) ∧ (decode cX11_met 14 = .ok (.iconst 0, 1)) := by decide +kernel
def dX11_met_0 := db_cX11_met_dX11_met_0_0.1
def dX11_met_1 := db_cX11_met_dX11_met_0_0.2.1
def dX11_met_2 := db_cX11_met_dX11_met_0_0.2.2.1
def dX11_met_3 := db_cX11_met_dX11_met_0_0.2.2.2.1
def dX11_met_4 := db_cX11_met_dX11_met_0_0.2.2.2.2.1
def dX11_met_5 := db_cX11_met_dX11_met_0_0.2.2.2.2.2.1
def dX11_met_6 := db_cX11_met_dX11_met_0_0.2.2.2.2.2.2.1
def dX11_met_7 := db_cX11_met_dX11_met_0_0.2.2.2.2.2.2.2.1
def dX11_met_9 := db_cX11_met_dX11_met_0_0.2.2.2.2.2.2.2.2.1
def dX11_met_11 := db_cX11_met_dX11_met_0_0.2.2.2.2.2.2.2.2.2.1
def dX11_met_12 := db_cX11_met_dX11_met_0_0.2.2.2.2.2.2.2.2.2.2.1
def dX11_met_14 := db_cX11_met_dX11_met_0_0.2.2.2.2.2.2.2.2.2.2.2
set_option maxRecDepth 100000 in
theorem db_cX11_met_dX11_met_15_1 : (decode cX11_met 15 = .ok (.istore 6, 2)) ∧ (decode cX11_met 17 = .ok (.iload 6, 2)) ∧ (decode cX11_met 19 = .ok (.iload 5, 2)) ∧ (decode cX11_met 21 = .ok (.if_icmp .ge 184, 3)) ∧ (decode cX11_met 24 = .ok (.iconst (-1), 1)) ∧ (decode cX11_met 25 = .ok (.istore 7, 2)) ∧ (decode cX11_met 27 = .ok (.iload 7, 2)) ∧ (decode cX11_met 29 = .ok (.iconst 3, 1)) ∧ (decode cX11_met 30 = .ok (.if_icmp .ge 169, 3)) ∧ (decode cX11_met 33 = .ok (.aload 4, 2)) ∧ (decode cX11_met 35 = .ok (.iconst 3, 1)) ∧ (decode cX11_met 36 = .ok (.iload 6, 2)) := by decide +kernel
def dX11_met_15 := db_cX11_met_dX11_met_15_1.1
def dX11_met_17 := db_cX11_met_dX11_met_15_1.2.1
def dX11_met_19 := db_cX11_met_dX11_met_15_1.2.2.1
def dX11_met_21 := db_cX11_met_dX11_met_15_1.2.2.2.1
def dX11_met_24 := db_cX11_met_dX11_met_15_1.2.2.2.2.1
def dX11_met_25 := db_cX11_met_dX11_met_15_1.2.2.2.2.2.1
def dX11_met_27 := db_cX11_met_dX11_met_15_1.2.2.2.2.2.2.1
def dX11_met_29 := db_cX11_met_dX11_met_15_1.2.2.2.2.2.2.2.1
def dX11_met_30 := db_cX11_met_dX11_met_15_1.2.2.2.2.2.2.2.2.1
def dX11_met_33 := db_cX11_met_dX11_met_15_1.2.2.2.2.2.2.2.2.2.1
def dX11_met_35 := db_cX11_met_dX11_met_15_1.2.2.2.2.2.2.2.2.2.2.1
def dX11_met_36 := db_cX11_met_dX11_met_15_1.2.2.2.2.2.2.2.2.2.2.2
set_option maxRecDepth 100000 in
theorem db_cX11_met_dX11_met_38_2 : (decode cX11_met 38 = .ok (.imul, 1)) ∧ (decode cX11_met 39 = .ok (.iconst 1, 1)) ∧ (decode cX11_met 40 = .ok (.iadd, 1)) ∧ (decode cX11_met 41 = .ok (.iaload, 1)) ∧ (decode cX11_met 42 = .ok (.istore 8, 2)) ∧ (decode cX11_met 44 = .ok (.iload 7, 2)) ∧ (decode cX11_met 46 = .ok (.ifCond .ge 8, 3)) ∧ (decode cX11_met 49 = .ok (.iload 8, 2)) ∧ (decode cX11_met 51 = .ok (.goto 31, 3)) ∧ (decode cX11_met 54 = .ok (.aload_n 0, 1)) ∧ (decode cX11_met 55 = .ok (.iconst 4, 1)) ∧ (decode cX11_met 56 = .ok (.iload 8, 2)) := by decide +kernel
def dX11_met_38 := db_cX11_met_dX11_met_38_2.1
def dX11_met_39 := db_cX11_met_dX11_met_38_2.2.1
def dX11_met_40 := db_cX11_met_dX11_met_38_2.2.2.1
def dX11_met_41 := db_cX11_met_dX11_met_38_2.2.2.2.1
def dX11_met_42 := db_cX11_met_dX11_met_38_2.2.2.2.2.1
def dX11_met_44 := db_cX11_met_dX11_met_38_2.2.2.2.2.2.1
def dX11_met_46 := db_cX11_met_dX11_met_38_2.2.2.2.2.2.2.1
def dX11_met_49 := db_cX11_met_dX11_met_38_2.2.2.2.2.2.2.2.1
def dX11_met_51 := db_cX11_met_dX11_met_38_2.2.2.2.2.2.2.2.2.1
def dX11_met_54 := db_cX11_met_dX11_met_38_2.2.2.2.2.2.2.2.2.2.1
def dX11_met_55 := db_cX11_met_dX11_met_38_2.2.2.2.2.2.2.2.2.2.2.1
def dX11_met_56 := db_cX11_met_dX11_met_38_2.2.2.2.2.2.2.2.2.2.2.2
set_option maxRecDepth 100000 in
theorem db_cX11_met_dX11_met_58_3 : (decode cX11_met 58 = .ok (.bipush 32, 2)) ∧ (decode cX11_met 60 = .ok (.idiv, 1)) ∧ (decode cX11_met 61 = .ok (.imul, 1)) ∧ (decode cX11_met 62 = .ok (.iload 7, 2)) ∧ (decode cX11_met 64 = .ok (.iadd, 1)) ∧ (decode cX11_met 65 = .ok (.iaload, 1)) ∧ (decode cX11_met 66 = .ok (.bipush 32, 2)) ∧ (decode cX11_met 68 = .ok (.imul, 1)) ∧ (decode cX11_met 69 = .ok (.aload_n 1, 1)) ∧ (decode cX11_met 70 = .ok (.iconst 4, 1)) ∧ (decode cX11_met 71 = .ok (.iload 8, 2)) ∧ (decode cX11_met 73 = .ok (.bipush 32, 2)) := by decide +kernel
def dX11_met_58 := db_cX11_met_dX11_met_58_3.1
def dX11_met_60 := db_cX11_met_dX11_met_58_3.2.1
def dX11_met_61 := db_cX11_met_dX11_met_58_3.2.2.1
def dX11_met_62 := db_cX11_met_dX11_met_58_3.2.2.2.1
def dX11_met_64 := db_cX11_met_dX11_met_58_3.2.2.2.2.1
def dX11_met_65 := db_cX11_met_dX11_met_58_3.2.2.2.2.2.1
def dX11_met_66 := db_cX11_met_dX11_met_58_3.2.2.2.2.2.2.1
def dX11_met_68 := db_cX11_met_dX11_met_58_3.2.2.2.2.2.2.2.1
def dX11_met_69 := db_cX11_met_dX11_met_58_3.2.2.2.2.2.2.2.2.1
def dX11_met_70 := db_cX11_met_dX11_met_58_3.2.2.2.2.2.2.2.2.2.1
def dX11_met_71 := db_cX11_met_dX11_met_58_3.2.2.2.2.2.2.2.2.2.2.1
def dX11_met_73 := db_cX11_met_dX11_met_58_3.2.2.2.2.2.2.2.2.2.2.2
set_option maxRecDepth 100000 in
theorem db_cX11_met_dX11_met_75_4 : (decode cX11_met 75 = .ok (.irem, 1)) ∧ (decode cX11_met 76 = .ok (.imul, 1)) ∧ (decode cX11_met 77 = .ok (.iload 7, 2)) ∧ (decode cX11_met 79 = .ok (.iadd, 1)) ∧ (decode cX11_met 80 = .ok (.iaload, 1)) ∧ (decode cX11_met 81 = .ok (.iadd, 1)) ∧ (decode cX11_met 82 = .ok (.istore 9, 2)) ∧ (decode cX11_met 84 = .ok (.iconst 0, 1)) ∧ (decode cX11_met 85 = .ok (.istore 10, 2)) ∧ (decode cX11_met 87 = .ok (.iload 10, 2)) ∧ (decode cX11_met 89 = .ok (.iload 5, 2)) ∧ (decode cX11_met 91 = .ok (.if_icmp .ge 23, 3)) := by decide +kernel
def dX11_met_75 := db_cX11_met_dX11_met_75_4.1
def dX11_met_76 := db_cX11_met_dX11_met_75_4.2.1
def dX11_met_77 := db_cX11_met_dX11_met_75_4.2.2.1
def dX11_met_79 := db_cX11_met_dX11_met_75_4.2.2.2.1
def dX11_met_80 := db_cX11_met_dX11_met_75_4.2.2.2.2.1
def dX11_met_81 := db_cX11_met_dX11_met_75_4.2.2.2.2.2.1
def dX11_met_82 := db_cX11_met_dX11_met_75_4.2.2.2.2.2.2.1
def dX11_met_84 := db_cX11_met_dX11_met_75_4.2.2.2.2.2.2.2.1
def dX11_met_85 := db_cX11_met_dX11_met_75_4.2.2.2.2.2.2.2.2.1
def dX11_met_87 := db_cX11_met_dX11_met_75_4.2.2.2.2.2.2.2.2.2.1
def dX11_met_89 := db_cX11_met_dX11_met_75_4.2.2.2.2.2.2.2.2.2.2.1
def dX11_met_91 := db_cX11_met_dX11_met_75_4.2.2.2.2.2.2.2.2.2.2.2
set_option maxRecDepth 100000 in
theorem db_cX11_met_dX11_met_94_5 : (decode cX11_met 94 = .ok (.aload 4, 2)) ∧ (decode cX11_met 96 = .ok (.iconst 3, 1)) ∧ (decode cX11_met 97 = .ok (.iload 10, 2)) ∧ (decode cX11_met 99 = .ok (.imul, 1)) ∧ (decode cX11_met 100 = .ok (.iconst 1, 1)) ∧ (decode cX11_met 101 = .ok (.iadd, 1)) ∧ (decode cX11_met 102 = .ok (.iaload, 1)) ∧ (decode cX11_met 103 = .ok (.iload 9, 2)) ∧ (decode cX11_met 105 = .ok (.if_icmp .eq 9, 3)) ∧ (decode cX11_met 108 = .ok (.iinc 10 1, 3)) ∧ (decode cX11_met 111 = .ok (.goto (-24), 3)) ∧ (decode cX11_met 114 = .ok (.iload 10, 2)) := by decide +kernel
def dX11_met_94 := db_cX11_met_dX11_met_94_5.1
def dX11_met_96 := db_cX11_met_dX11_met_94_5.2.1
def dX11_met_97 := db_cX11_met_dX11_met_94_5.2.2.1
def dX11_met_99 := db_cX11_met_dX11_met_94_5.2.2.2.1
def dX11_met_100 := db_cX11_met_dX11_met_94_5.2.2.2.2.1
def dX11_met_101 := db_cX11_met_dX11_met_94_5.2.2.2.2.2.1
def dX11_met_102 := db_cX11_met_dX11_met_94_5.2.2.2.2.2.2.1
def dX11_met_103 := db_cX11_met_dX11_met_94_5.2.2.2.2.2.2.2.1
def dX11_met_105 := db_cX11_met_dX11_met_94_5.2.2.2.2.2.2.2.2.1
def dX11_met_108 := db_cX11_met_dX11_met_94_5.2.2.2.2.2.2.2.2.2.1
def dX11_met_111 := db_cX11_met_dX11_met_94_5.2.2.2.2.2.2.2.2.2.2.1
def dX11_met_114 := db_cX11_met_dX11_met_94_5.2.2.2.2.2.2.2.2.2.2.2
set_option maxRecDepth 100000 in
theorem db_cX11_met_dX11_met_116_6 : (decode cX11_met 116 = .ok (.iload 5, 2)) ∧ (decode cX11_met 118 = .ok (.if_icmp .ne 39, 3)) ∧ (decode cX11_met 121 = .ok (.aload 4, 2)) ∧ (decode cX11_met 123 = .ok (.iconst 3, 1)) ∧ (decode cX11_met 124 = .ok (.iload 5, 2)) ∧ (decode cX11_met 126 = .ok (.imul, 1)) ∧ (decode cX11_met 127 = .ok (.iconst 1, 1)) ∧ (decode cX11_met 128 = .ok (.iadd, 1)) ∧ (decode cX11_met 129 = .ok (.iload 9, 2)) ∧ (decode cX11_met 131 = .ok (.iastore, 1)) ∧ (decode cX11_met 132 = .ok (.aload 4, 2)) ∧ (decode cX11_met 134 = .ok (.iconst 3, 1)) := by decide +kernel
def dX11_met_116 := db_cX11_met_dX11_met_116_6.1
def dX11_met_118 := db_cX11_met_dX11_met_116_6.2.1
def dX11_met_121 := db_cX11_met_dX11_met_116_6.2.2.1
def dX11_met_123 := db_cX11_met_dX11_met_116_6.2.2.2.1
def dX11_met_124 := db_cX11_met_dX11_met_116_6.2.2.2.2.1
def dX11_met_126 := db_cX11_met_dX11_met_116_6.2.2.2.2.2.1
def dX11_met_127 := db_cX11_met_dX11_met_116_6.2.2.2.2.2.2.1
def dX11_met_128 := db_cX11_met_dX11_met_116_6.2.2.2.2.2.2.2.1
def dX11_met_129 := db_cX11_met_dX11_met_116_6.2.2.2.2.2.2.2.2.1
def dX11_met_131 := db_cX11_met_dX11_met_116_6.2.2.2.2.2.2.2.2.2.1
def dX11_met_132 := db_cX11_met_dX11_met_116_6.2.2.2.2.2.2.2.2.2.2.1
def dX11_met_134 := db_cX11_met_dX11_met_116_6.2.2.2.2.2.2.2.2.2.2.2
set_option maxRecDepth 100000 in
theorem db_cX11_met_dX11_met_135_7 : (decode cX11_met 135 = .ok (.iload 5, 2)) ∧ (decode cX11_met 137 = .ok (.imul, 1)) ∧ (decode cX11_met 138 = .ok (.iconst 2, 1)) ∧ (decode cX11_met 139 = .ok (.iadd, 1)) ∧ (decode cX11_met 140 = .ok (.iload 6, 2)) ∧ (decode cX11_met 142 = .ok (.iastore, 1)) ∧ (decode cX11_met 143 = .ok (.aload 4, 2)) ∧ (decode cX11_met 145 = .ok (.iconst 3, 1)) ∧ (decode cX11_met 146 = .ok (.iload 5, 2)) ∧ (decode cX11_met 148 = .ok (.imul, 1)) ∧ (decode cX11_met 149 = .ok (.iconst 3, 1)) ∧ (decode cX11_met 150 = .ok (.iadd, 1)) := by decide +kernel
def dX11_met_135 := db_cX11_met_dX11_met_135_7.1
def dX11_met_137 := db_cX11_met_dX11_met_135_7.2.1
def dX11_met_138 := db_cX11_met_dX11_met_135_7.2.2.1
def dX11_met_139 := db_cX11_met_dX11_met_135_7.2.2.2.1
def dX11_met_140 := db_cX11_met_dX11_met_135_7.2.2.2.2.1
def dX11_met_142 := db_cX11_met_dX11_met_135_7.2.2.2.2.2.1
def dX11_met_143 := db_cX11_met_dX11_met_135_7.2.2.2.2.2.2.1
def dX11_met_145 := db_cX11_met_dX11_met_135_7.2.2.2.2.2.2.2.1
def dX11_met_146 := db_cX11_met_dX11_met_135_7.2.2.2.2.2.2.2.2.1
def dX11_met_148 := db_cX11_met_dX11_met_135_7.2.2.2.2.2.2.2.2.2.1
def dX11_met_149 := db_cX11_met_dX11_met_135_7.2.2.2.2.2.2.2.2.2.2.1
def dX11_met_150 := db_cX11_met_dX11_met_135_7.2.2.2.2.2.2.2.2.2.2.2
set_option maxRecDepth 100000 in
theorem db_cX11_met_dX11_met_151_8 : (decode cX11_met 151 = .ok (.iload 7, 2)) ∧ (decode cX11_met 153 = .ok (.iastore, 1)) ∧ (decode cX11_met 154 = .ok (.iinc 5 1, 3)) ∧ (decode cX11_met 157 = .ok (.aload 4, 2)) ∧ (decode cX11_met 159 = .ok (.iconst 0, 1)) ∧ (decode cX11_met 160 = .ok (.iload 5, 2)) ∧ (decode cX11_met 162 = .ok (.iastore, 1)) ∧ (decode cX11_met 163 = .ok (.iload 5, 2)) ∧ (decode cX11_met 165 = .ok (.iload_n 2, 1)) ∧ (decode cX11_met 166 = .ok (.if_icmp .gt 24, 3)) ∧ (decode cX11_met 169 = .ok (.iload_n 3, 1)) ∧ (decode cX11_met 170 = .ok (.ifCond .eq 23, 3)) := by decide +kernel
def dX11_met_151 := db_cX11_met_dX11_met_151_8.1
def dX11_met_153 := db_cX11_met_dX11_met_151_8.2.1
def dX11_met_154 := db_cX11_met_dX11_met_151_8.2.2.1
def dX11_met_157 := db_cX11_met_dX11_met_151_8.2.2.2.1
def dX11_met_159 := db_cX11_met_dX11_met_151_8.2.2.2.2.1
def dX11_met_160 := db_cX11_met_dX11_met_151_8.2.2.2.2.2.1
def dX11_met_162 := db_cX11_met_dX11_met_151_8.2.2.2.2.2.2.1
def dX11_met_163 := db_cX11_met_dX11_met_151_8.2.2.2.2.2.2.2.1
def dX11_met_165 := db_cX11_met_dX11_met_151_8.2.2.2.2.2.2.2.2.1
def dX11_met_166 := db_cX11_met_dX11_met_151_8.2.2.2.2.2.2.2.2.2.1
def dX11_met_169 := db_cX11_met_dX11_met_151_8.2.2.2.2.2.2.2.2.2.2.1
def dX11_met_170 := db_cX11_met_dX11_met_151_8.2.2.2.2.2.2.2.2.2.2.2
set_option maxRecDepth 100000 in
theorem db_cX11_met_dX11_met_173_9 : (decode cX11_met 173 = .ok (.aload_n 0, 1)) ∧ (decode cX11_met 174 = .ok (.aload_n 1, 1)) ∧ (decode cX11_met 175 = .ok (.aload 4, 2)) ∧ (decode cX11_met 177 = .ok (.iconst 3, 1)) ∧ (decode cX11_met 178 = .ok (.iload 5, 2)) ∧ (decode cX11_met 180 = .ok (.imul, 1)) ∧ (decode cX11_met 181 = .ok (.iconst 2, 1)) ∧ (decode cX11_met 182 = .ok (.isub, 1)) ∧ (decode cX11_met 183 = .ok (.iaload, 1)) ∧ (decode cX11_met 184 = .ok (.invokestatic 79, 3)) ∧ (decode cX11_met 187 = .ok (.ifCond .eq 6, 3)) ∧ (decode cX11_met 190 = .ok (.aload 4, 2)) := by decide +kernel
def dX11_met_173 := db_cX11_met_dX11_met_173_9.1
def dX11_met_174 := db_cX11_met_dX11_met_173_9.2.1
def dX11_met_175 := db_cX11_met_dX11_met_173_9.2.2.1
def dX11_met_177 := db_cX11_met_dX11_met_173_9.2.2.2.1
def dX11_met_178 := db_cX11_met_dX11_met_173_9.2.2.2.2.1
def dX11_met_180 := db_cX11_met_dX11_met_173_9.2.2.2.2.2.1
def dX11_met_181 := db_cX11_met_dX11_met_173_9.2.2.2.2.2.2.1
def dX11_met_182 := db_cX11_met_dX11_met_173_9.2.2.2.2.2.2.2.1
def dX11_met_183 := db_cX11_met_dX11_met_173_9.2.2.2.2.2.2.2.2.1
def dX11_met_184 := db_cX11_met_dX11_met_173_9.2.2.2.2.2.2.2.2.2.1
def dX11_met_187 := db_cX11_met_dX11_met_173_9.2.2.2.2.2.2.2.2.2.2.1
def dX11_met_190 := db_cX11_met_dX11_met_173_9.2.2.2.2.2.2.2.2.2.2.2
set_option maxRecDepth 100000 in
theorem db_cX11_met_dX11_met_192_10 : (decode cX11_met 192 = .ok (.areturn, 1)) ∧ (decode cX11_met 193 = .ok (.iinc 7 1, 3)) ∧ (decode cX11_met 196 = .ok (.goto (-169), 3)) ∧ (decode cX11_met 199 = .ok (.iinc 6 1, 3)) ∧ (decode cX11_met 202 = .ok (.goto (-185), 3)) ∧ (decode cX11_met 205 = .ok (.aload 4, 2)) ∧ (decode cX11_met 207 = .ok (.areturn, 1)) := by decide +kernel
def dX11_met_192 := db_cX11_met_dX11_met_192_10.1
def dX11_met_193 := db_cX11_met_dX11_met_192_10.2.1
def dX11_met_196 := db_cX11_met_dX11_met_192_10.2.2.1
def dX11_met_199 := db_cX11_met_dX11_met_192_10.2.2.2.1
def dX11_met_202 := db_cX11_met_dX11_met_192_10.2.2.2.2.1
def dX11_met_205 := db_cX11_met_dX11_met_192_10.2.2.2.2.2.1
def dX11_met_207 := db_cX11_met_dX11_met_192_10.2.2.2.2.2.2
set_option maxRecDepth 100000 in
theorem db_cX11_pairsOf_dX11_pairsOf_0_0 : (decode cX11_pairsOf 0 = .ok (.aload_n 0, 1)) ∧ (decode cX11_pairsOf 1 = .ok (.iload_n 1, 1)) ∧ (decode cX11_pairsOf 2 = .ok (.invokevirtual 70, 3)) ∧ (decode cX11_pairsOf 5 = .ok (.astore_n 3, 1)) ∧ (decode cX11_pairsOf 6 = .ok (.aload_n 0, 1)) ∧ (decode cX11_pairsOf 7 = .ok (.iload_n 2, 1)) ∧ (decode cX11_pairsOf 8 = .ok (.invokevirtual 70, 3)) ∧ (decode cX11_pairsOf 11 = .ok (.astore 4, 2)) ∧ (decode cX11_pairsOf 13 = .ok (.aload_n 3, 1)) ∧ (decode cX11_pairsOf 14 = .ok (.ifnull 8, 3)) ∧ (decode cX11_pairsOf 17 = .ok (.aload 4, 2)) ∧ (decode cX11_pairsOf 19 = .ok (.ifnonnull 5, 3)) := by decide +kernel
def dX11_pairsOf_0 := db_cX11_pairsOf_dX11_pairsOf_0_0.1
def dX11_pairsOf_1 := db_cX11_pairsOf_dX11_pairsOf_0_0.2.1
def dX11_pairsOf_2 := db_cX11_pairsOf_dX11_pairsOf_0_0.2.2.1
def dX11_pairsOf_5 := db_cX11_pairsOf_dX11_pairsOf_0_0.2.2.2.1
def dX11_pairsOf_6 := db_cX11_pairsOf_dX11_pairsOf_0_0.2.2.2.2.1
def dX11_pairsOf_7 := db_cX11_pairsOf_dX11_pairsOf_0_0.2.2.2.2.2.1
def dX11_pairsOf_8 := db_cX11_pairsOf_dX11_pairsOf_0_0.2.2.2.2.2.2.1
def dX11_pairsOf_11 := db_cX11_pairsOf_dX11_pairsOf_0_0.2.2.2.2.2.2.2.1
def dX11_pairsOf_13 := db_cX11_pairsOf_dX11_pairsOf_0_0.2.2.2.2.2.2.2.2.1
def dX11_pairsOf_14 := db_cX11_pairsOf_dX11_pairsOf_0_0.2.2.2.2.2.2.2.2.2.1
def dX11_pairsOf_17 := db_cX11_pairsOf_dX11_pairsOf_0_0.2.2.2.2.2.2.2.2.2.2.1
def dX11_pairsOf_19 := db_cX11_pairsOf_dX11_pairsOf_0_0.2.2.2.2.2.2.2.2.2.2.2
set_option maxRecDepth 100000 in
theorem db_cX11_pairsOf_dX11_pairsOf_22_1 : (decode cX11_pairsOf 22 = .ok (.aconst_null, 1)) ∧ (decode cX11_pairsOf 23 = .ok (.areturn, 1)) ∧ (decode cX11_pairsOf 24 = .ok (.aload_n 3, 1)) ∧ (decode cX11_pairsOf 25 = .ok (.aload 4, 2)) ∧ (decode cX11_pairsOf 27 = .ok (.sipush 200, 3)) ∧ (decode cX11_pairsOf 30 = .ok (.iconst 1, 1)) ∧ (decode cX11_pairsOf 31 = .ok (.invokestatic 83, 3)) ∧ (decode cX11_pairsOf 34 = .ok (.astore 5, 2)) ∧ (decode cX11_pairsOf 36 = .ok (.aload 5, 2)) ∧ (decode cX11_pairsOf 38 = .ok (.iconst 0, 1)) ∧ (decode cX11_pairsOf 39 = .ok (.iaload, 1)) ∧ (decode cX11_pairsOf 40 = .ok (.sipush 200, 3)) := by decide +kernel
def dX11_pairsOf_22 := db_cX11_pairsOf_dX11_pairsOf_22_1.1
def dX11_pairsOf_23 := db_cX11_pairsOf_dX11_pairsOf_22_1.2.1
def dX11_pairsOf_24 := db_cX11_pairsOf_dX11_pairsOf_22_1.2.2.1
def dX11_pairsOf_25 := db_cX11_pairsOf_dX11_pairsOf_22_1.2.2.2.1
def dX11_pairsOf_27 := db_cX11_pairsOf_dX11_pairsOf_22_1.2.2.2.2.1
def dX11_pairsOf_30 := db_cX11_pairsOf_dX11_pairsOf_22_1.2.2.2.2.2.1
def dX11_pairsOf_31 := db_cX11_pairsOf_dX11_pairsOf_22_1.2.2.2.2.2.2.1
def dX11_pairsOf_34 := db_cX11_pairsOf_dX11_pairsOf_22_1.2.2.2.2.2.2.2.1
def dX11_pairsOf_36 := db_cX11_pairsOf_dX11_pairsOf_22_1.2.2.2.2.2.2.2.2.1
def dX11_pairsOf_38 := db_cX11_pairsOf_dX11_pairsOf_22_1.2.2.2.2.2.2.2.2.2.1
def dX11_pairsOf_39 := db_cX11_pairsOf_dX11_pairsOf_22_1.2.2.2.2.2.2.2.2.2.2.1
def dX11_pairsOf_40 := db_cX11_pairsOf_dX11_pairsOf_22_1.2.2.2.2.2.2.2.2.2.2.2
set_option maxRecDepth 100000 in
theorem db_cX11_pairsOf_dX11_pairsOf_43_2 : (decode cX11_pairsOf 43 = .ok (.if_icmp .le 7, 3)) ∧ (decode cX11_pairsOf 46 = .ok (.aconst_null, 1)) ∧ (decode cX11_pairsOf 47 = .ok (.goto 5, 3)) ∧ (decode cX11_pairsOf 50 = .ok (.aload 5, 2)) ∧ (decode cX11_pairsOf 52 = .ok (.areturn, 1)) := by decide +kernel
def dX11_pairsOf_43 := db_cX11_pairsOf_dX11_pairsOf_43_2.1
def dX11_pairsOf_46 := db_cX11_pairsOf_dX11_pairsOf_43_2.2.1
def dX11_pairsOf_47 := db_cX11_pairsOf_dX11_pairsOf_43_2.2.2.1
def dX11_pairsOf_50 := db_cX11_pairsOf_dX11_pairsOf_43_2.2.2.2.1
def dX11_pairsOf_52 := db_cX11_pairsOf_dX11_pairsOf_43_2.2.2.2.2
set_option maxRecDepth 100000 in
theorem db_cX11_isApart_dX11_isApart_0_0 : (decode cX11_isApart 0 = .ok (.aload_n 0, 1)) ∧ (decode cX11_isApart 1 = .ok (.iload_n 1, 1)) ∧ (decode cX11_isApart 2 = .ok (.invokevirtual 70, 3)) ∧ (decode cX11_isApart 5 = .ok (.aload_n 0, 1)) ∧ (decode cX11_isApart 6 = .ok (.iload_n 2, 1)) ∧ (decode cX11_isApart 7 = .ok (.invokevirtual 70, 3)) ∧ (decode cX11_isApart 10 = .ok (.aload_n 3, 1)) ∧ (decode cX11_isApart 11 = .ok (.iconst 3, 1)) ∧ (decode cX11_isApart 12 = .ok (.aload_n 3, 1)) ∧ (decode cX11_isApart 13 = .ok (.iconst 0, 1)) ∧ (decode cX11_isApart 14 = .ok (.iaload, 1)) ∧ (decode cX11_isApart 15 = .ok (.imul, 1)) := by decide +kernel
def dX11_isApart_0 := db_cX11_isApart_dX11_isApart_0_0.1
def dX11_isApart_1 := db_cX11_isApart_dX11_isApart_0_0.2.1
def dX11_isApart_2 := db_cX11_isApart_dX11_isApart_0_0.2.2.1
def dX11_isApart_5 := db_cX11_isApart_dX11_isApart_0_0.2.2.2.1
def dX11_isApart_6 := db_cX11_isApart_dX11_isApart_0_0.2.2.2.2.1
def dX11_isApart_7 := db_cX11_isApart_dX11_isApart_0_0.2.2.2.2.2.1
def dX11_isApart_10 := db_cX11_isApart_dX11_isApart_0_0.2.2.2.2.2.2.1
def dX11_isApart_11 := db_cX11_isApart_dX11_isApart_0_0.2.2.2.2.2.2.2.1
def dX11_isApart_12 := db_cX11_isApart_dX11_isApart_0_0.2.2.2.2.2.2.2.2.1
def dX11_isApart_13 := db_cX11_isApart_dX11_isApart_0_0.2.2.2.2.2.2.2.2.2.1
def dX11_isApart_14 := db_cX11_isApart_dX11_isApart_0_0.2.2.2.2.2.2.2.2.2.2.1
def dX11_isApart_15 := db_cX11_isApart_dX11_isApart_0_0.2.2.2.2.2.2.2.2.2.2.2
set_option maxRecDepth 100000 in
theorem db_cX11_isApart_dX11_isApart_16_1 : (decode cX11_isApart 16 = .ok (.iconst 2, 1)) ∧ (decode cX11_isApart 17 = .ok (.isub, 1)) ∧ (decode cX11_isApart 18 = .ok (.iaload, 1)) ∧ (decode cX11_isApart 19 = .ok (.invokestatic 79, 3)) ∧ (decode cX11_isApart 22 = .ok (.ireturn, 1)) := by decide +kernel
def dX11_isApart_16 := db_cX11_isApart_dX11_isApart_16_1.1
def dX11_isApart_17 := db_cX11_isApart_dX11_isApart_16_1.2.1
def dX11_isApart_18 := db_cX11_isApart_dX11_isApart_16_1.2.2.1
def dX11_isApart_19 := db_cX11_isApart_dX11_isApart_16_1.2.2.2.1
def dX11_isApart_22 := db_cX11_isApart_dX11_isApart_16_1.2.2.2.2
set_option maxRecDepth 100000 in
theorem db_cX11_both_dX11_both_0_0 : (decode cX11_both 0 = .ok (.aload_n 0, 1)) ∧ (decode cX11_both 1 = .ok (.iload_n 1, 1)) ∧ (decode cX11_both 2 = .ok (.invokevirtual 70, 3)) ∧ (decode cX11_both 5 = .ok (.astore 4, 2)) ∧ (decode cX11_both 7 = .ok (.aload_n 0, 1)) ∧ (decode cX11_both 8 = .ok (.iload_n 2, 1)) ∧ (decode cX11_both 9 = .ok (.invokevirtual 70, 3)) ∧ (decode cX11_both 12 = .ok (.astore 5, 2)) ∧ (decode cX11_both 14 = .ok (.aload 4, 2)) ∧ (decode cX11_both 16 = .ok (.ifnull 8, 3)) ∧ (decode cX11_both 19 = .ok (.aload 5, 2)) ∧ (decode cX11_both 21 = .ok (.ifnonnull 5, 3)) := by decide +kernel
def dX11_both_0 := db_cX11_both_dX11_both_0_0.1
def dX11_both_1 := db_cX11_both_dX11_both_0_0.2.1
def dX11_both_2 := db_cX11_both_dX11_both_0_0.2.2.1
def dX11_both_5 := db_cX11_both_dX11_both_0_0.2.2.2.1
def dX11_both_7 := db_cX11_both_dX11_both_0_0.2.2.2.2.1
def dX11_both_8 := db_cX11_both_dX11_both_0_0.2.2.2.2.2.1
def dX11_both_9 := db_cX11_both_dX11_both_0_0.2.2.2.2.2.2.1
def dX11_both_12 := db_cX11_both_dX11_both_0_0.2.2.2.2.2.2.2.1
def dX11_both_14 := db_cX11_both_dX11_both_0_0.2.2.2.2.2.2.2.2.1
def dX11_both_16 := db_cX11_both_dX11_both_0_0.2.2.2.2.2.2.2.2.2.1
def dX11_both_19 := db_cX11_both_dX11_both_0_0.2.2.2.2.2.2.2.2.2.2.1
def dX11_both_21 := db_cX11_both_dX11_both_0_0.2.2.2.2.2.2.2.2.2.2.2
set_option maxRecDepth 100000 in
theorem db_cX11_both_dX11_both_24_1 : (decode cX11_both 24 = .ok (.aconst_null, 1)) ∧ (decode cX11_both 25 = .ok (.areturn, 1)) ∧ (decode cX11_both 26 = .ok (.aload 4, 2)) ∧ (decode cX11_both 28 = .ok (.aload 5, 2)) ∧ (decode cX11_both 30 = .ok (.bipush 32, 2)) ∧ (decode cX11_both 32 = .ok (.iconst 0, 1)) ∧ (decode cX11_both 33 = .ok (.invokestatic 83, 3)) ∧ (decode cX11_both 36 = .ok (.astore 6, 2)) ∧ (decode cX11_both 38 = .ok (.aload 6, 2)) ∧ (decode cX11_both 40 = .ok (.iconst 0, 1)) ∧ (decode cX11_both 41 = .ok (.iaload, 1)) ∧ (decode cX11_both 42 = .ok (.bipush 32, 2)) := by decide +kernel
def dX11_both_24 := db_cX11_both_dX11_both_24_1.1
def dX11_both_25 := db_cX11_both_dX11_both_24_1.2.1
def dX11_both_26 := db_cX11_both_dX11_both_24_1.2.2.1
def dX11_both_28 := db_cX11_both_dX11_both_24_1.2.2.2.1
def dX11_both_30 := db_cX11_both_dX11_both_24_1.2.2.2.2.1
def dX11_both_32 := db_cX11_both_dX11_both_24_1.2.2.2.2.2.1
def dX11_both_33 := db_cX11_both_dX11_both_24_1.2.2.2.2.2.2.1
def dX11_both_36 := db_cX11_both_dX11_both_24_1.2.2.2.2.2.2.2.1
def dX11_both_38 := db_cX11_both_dX11_both_24_1.2.2.2.2.2.2.2.2.1
def dX11_both_40 := db_cX11_both_dX11_both_24_1.2.2.2.2.2.2.2.2.2.1
def dX11_both_41 := db_cX11_both_dX11_both_24_1.2.2.2.2.2.2.2.2.2.2.1
def dX11_both_42 := db_cX11_both_dX11_both_24_1.2.2.2.2.2.2.2.2.2.2.2
set_option maxRecDepth 100000 in
theorem db_cX11_both_dX11_both_44_2 : (decode cX11_both 44 = .ok (.if_icmp .le 5, 3)) ∧ (decode cX11_both 47 = .ok (.aconst_null, 1)) ∧ (decode cX11_both 48 = .ok (.areturn, 1)) ∧ (decode cX11_both 49 = .ok (.iconst 4, 1)) ∧ (decode cX11_both 50 = .ok (.aload 6, 2)) ∧ (decode cX11_both 52 = .ok (.iconst 0, 1)) ∧ (decode cX11_both 53 = .ok (.iaload, 1)) ∧ (decode cX11_both 54 = .ok (.imul, 1)) ∧ (decode cX11_both 55 = .ok (.newarray .int, 2)) ∧ (decode cX11_both 57 = .ok (.astore 7, 2)) ∧ (decode cX11_both 59 = .ok (.iconst 0, 1)) ∧ (decode cX11_both 60 = .ok (.istore 8, 2)) := by decide +kernel
def dX11_both_44 := db_cX11_both_dX11_both_44_2.1
def dX11_both_47 := db_cX11_both_dX11_both_44_2.2.1
def dX11_both_48 := db_cX11_both_dX11_both_44_2.2.2.1
def dX11_both_49 := db_cX11_both_dX11_both_44_2.2.2.2.1
def dX11_both_50 := db_cX11_both_dX11_both_44_2.2.2.2.2.1
def dX11_both_52 := db_cX11_both_dX11_both_44_2.2.2.2.2.2.1
def dX11_both_53 := db_cX11_both_dX11_both_44_2.2.2.2.2.2.2.1
def dX11_both_54 := db_cX11_both_dX11_both_44_2.2.2.2.2.2.2.2.1
def dX11_both_55 := db_cX11_both_dX11_both_44_2.2.2.2.2.2.2.2.2.1
def dX11_both_57 := db_cX11_both_dX11_both_44_2.2.2.2.2.2.2.2.2.2.1
def dX11_both_59 := db_cX11_both_dX11_both_44_2.2.2.2.2.2.2.2.2.2.2.1
def dX11_both_60 := db_cX11_both_dX11_both_44_2.2.2.2.2.2.2.2.2.2.2.2
set_option maxRecDepth 100000 in
theorem db_cX11_both_dX11_both_62_3 : (decode cX11_both 62 = .ok (.iload 8, 2)) ∧ (decode cX11_both 64 = .ok (.aload 6, 2)) ∧ (decode cX11_both 66 = .ok (.iconst 0, 1)) ∧ (decode cX11_both 67 = .ok (.iaload, 1)) ∧ (decode cX11_both 68 = .ok (.if_icmp .ge 204, 3)) ∧ (decode cX11_both 71 = .ok (.aload 6, 2)) ∧ (decode cX11_both 73 = .ok (.iconst 3, 1)) ∧ (decode cX11_both 74 = .ok (.iload 8, 2)) ∧ (decode cX11_both 76 = .ok (.imul, 1)) ∧ (decode cX11_both 77 = .ok (.iconst 1, 1)) ∧ (decode cX11_both 78 = .ok (.iadd, 1)) ∧ (decode cX11_both 79 = .ok (.iaload, 1)) := by decide +kernel
def dX11_both_62 := db_cX11_both_dX11_both_62_3.1
def dX11_both_64 := db_cX11_both_dX11_both_62_3.2.1
def dX11_both_66 := db_cX11_both_dX11_both_62_3.2.2.1
def dX11_both_67 := db_cX11_both_dX11_both_62_3.2.2.2.1
def dX11_both_68 := db_cX11_both_dX11_both_62_3.2.2.2.2.1
def dX11_both_71 := db_cX11_both_dX11_both_62_3.2.2.2.2.2.1
def dX11_both_73 := db_cX11_both_dX11_both_62_3.2.2.2.2.2.2.1
def dX11_both_74 := db_cX11_both_dX11_both_62_3.2.2.2.2.2.2.2.1
def dX11_both_76 := db_cX11_both_dX11_both_62_3.2.2.2.2.2.2.2.2.1
def dX11_both_77 := db_cX11_both_dX11_both_62_3.2.2.2.2.2.2.2.2.2.1
def dX11_both_78 := db_cX11_both_dX11_both_62_3.2.2.2.2.2.2.2.2.2.2.1
def dX11_both_79 := db_cX11_both_dX11_both_62_3.2.2.2.2.2.2.2.2.2.2.2
set_option maxRecDepth 100000 in
theorem db_cX11_both_dX11_both_80_4 : (decode cX11_both 80 = .ok (.bipush 32, 2)) ∧ (decode cX11_both 82 = .ok (.idiv, 1)) ∧ (decode cX11_both 83 = .ok (.istore 9, 2)) ∧ (decode cX11_both 85 = .ok (.aload 6, 2)) ∧ (decode cX11_both 87 = .ok (.iconst 3, 1)) ∧ (decode cX11_both 88 = .ok (.iload 8, 2)) ∧ (decode cX11_both 90 = .ok (.imul, 1)) ∧ (decode cX11_both 91 = .ok (.iconst 1, 1)) ∧ (decode cX11_both 92 = .ok (.iadd, 1)) ∧ (decode cX11_both 93 = .ok (.iaload, 1)) ∧ (decode cX11_both 94 = .ok (.bipush 32, 2)) ∧ (decode cX11_both 96 = .ok (.irem, 1)) := by decide +kernel
def dX11_both_80 := db_cX11_both_dX11_both_80_4.1
def dX11_both_82 := db_cX11_both_dX11_both_80_4.2.1
def dX11_both_83 := db_cX11_both_dX11_both_80_4.2.2.1
def dX11_both_85 := db_cX11_both_dX11_both_80_4.2.2.2.1
def dX11_both_87 := db_cX11_both_dX11_both_80_4.2.2.2.2.1
def dX11_both_88 := db_cX11_both_dX11_both_80_4.2.2.2.2.2.1
def dX11_both_90 := db_cX11_both_dX11_both_80_4.2.2.2.2.2.2.1
def dX11_both_91 := db_cX11_both_dX11_both_80_4.2.2.2.2.2.2.2.1
def dX11_both_92 := db_cX11_both_dX11_both_80_4.2.2.2.2.2.2.2.2.1
def dX11_both_93 := db_cX11_both_dX11_both_80_4.2.2.2.2.2.2.2.2.2.1
def dX11_both_94 := db_cX11_both_dX11_both_80_4.2.2.2.2.2.2.2.2.2.2.1
def dX11_both_96 := db_cX11_both_dX11_both_80_4.2.2.2.2.2.2.2.2.2.2.2
set_option maxRecDepth 100000 in
theorem db_cX11_both_dX11_both_97_5 : (decode cX11_both 97 = .ok (.istore 10, 2)) ∧ (decode cX11_both 99 = .ok (.aload 4, 2)) ∧ (decode cX11_both 101 = .ok (.iconst 4, 1)) ∧ (decode cX11_both 102 = .ok (.iload 9, 2)) ∧ (decode cX11_both 104 = .ok (.imul, 1)) ∧ (decode cX11_both 105 = .ok (.iconst 3, 1)) ∧ (decode cX11_both 106 = .ok (.iadd, 1)) ∧ (decode cX11_both 107 = .ok (.iaload, 1)) ∧ (decode cX11_both 108 = .ok (.istore 11, 2)) ∧ (decode cX11_both 110 = .ok (.aload 5, 2)) ∧ (decode cX11_both 112 = .ok (.iconst 4, 1)) ∧ (decode cX11_both 113 = .ok (.iload 10, 2)) := by decide +kernel
def dX11_both_97 := db_cX11_both_dX11_both_97_5.1
def dX11_both_99 := db_cX11_both_dX11_both_97_5.2.1
def dX11_both_101 := db_cX11_both_dX11_both_97_5.2.2.1
def dX11_both_102 := db_cX11_both_dX11_both_97_5.2.2.2.1
def dX11_both_104 := db_cX11_both_dX11_both_97_5.2.2.2.2.1
def dX11_both_105 := db_cX11_both_dX11_both_97_5.2.2.2.2.2.1
def dX11_both_106 := db_cX11_both_dX11_both_97_5.2.2.2.2.2.2.1
def dX11_both_107 := db_cX11_both_dX11_both_97_5.2.2.2.2.2.2.2.1
def dX11_both_108 := db_cX11_both_dX11_both_97_5.2.2.2.2.2.2.2.2.1
def dX11_both_110 := db_cX11_both_dX11_both_97_5.2.2.2.2.2.2.2.2.2.1
def dX11_both_112 := db_cX11_both_dX11_both_97_5.2.2.2.2.2.2.2.2.2.2.1
def dX11_both_113 := db_cX11_both_dX11_both_97_5.2.2.2.2.2.2.2.2.2.2.2
set_option maxRecDepth 100000 in
theorem db_cX11_both_dX11_both_115_6 : (decode cX11_both 115 = .ok (.imul, 1)) ∧ (decode cX11_both 116 = .ok (.iconst 3, 1)) ∧ (decode cX11_both 117 = .ok (.iadd, 1)) ∧ (decode cX11_both 118 = .ok (.iaload, 1)) ∧ (decode cX11_both 119 = .ok (.istore 12, 2)) ∧ (decode cX11_both 121 = .ok (.aload 7, 2)) ∧ (decode cX11_both 123 = .ok (.iconst 4, 1)) ∧ (decode cX11_both 124 = .ok (.iload 8, 2)) ∧ (decode cX11_both 126 = .ok (.imul, 1)) ∧ (decode cX11_both 127 = .ok (.iconst 3, 1)) ∧ (decode cX11_both 128 = .ok (.iadd, 1)) ∧ (decode cX11_both 129 = .ok (.iload_n 3, 1)) := by decide +kernel
def dX11_both_115 := db_cX11_both_dX11_both_115_6.1
def dX11_both_116 := db_cX11_both_dX11_both_115_6.2.1
def dX11_both_117 := db_cX11_both_dX11_both_115_6.2.2.1
def dX11_both_118 := db_cX11_both_dX11_both_115_6.2.2.2.1
def dX11_both_119 := db_cX11_both_dX11_both_115_6.2.2.2.2.1
def dX11_both_121 := db_cX11_both_dX11_both_115_6.2.2.2.2.2.1
def dX11_both_123 := db_cX11_both_dX11_both_115_6.2.2.2.2.2.2.1
def dX11_both_124 := db_cX11_both_dX11_both_115_6.2.2.2.2.2.2.2.1
def dX11_both_126 := db_cX11_both_dX11_both_115_6.2.2.2.2.2.2.2.2.1
def dX11_both_127 := db_cX11_both_dX11_both_115_6.2.2.2.2.2.2.2.2.2.1
def dX11_both_128 := db_cX11_both_dX11_both_115_6.2.2.2.2.2.2.2.2.2.2.1
def dX11_both_129 := db_cX11_both_dX11_both_115_6.2.2.2.2.2.2.2.2.2.2.2
set_option maxRecDepth 100000 in
theorem db_cX11_both_dX11_both_130_7 : (decode cX11_both 130 = .ok (.ifCond .ne 13, 3)) ∧ (decode cX11_both 133 = .ok (.iload 11, 2)) ∧ (decode cX11_both 135 = .ok (.iload 12, 2)) ∧ (decode cX11_both 137 = .ok (.invokestatic 87, 3)) ∧ (decode cX11_both 140 = .ok (.goto 45, 3)) ∧ (decode cX11_both 143 = .ok (.iload_n 3, 1)) ∧ (decode cX11_both 144 = .ok (.iconst 1, 1)) ∧ (decode cX11_both 145 = .ok (.if_icmp .ne 11, 3)) ∧ (decode cX11_both 148 = .ok (.iload 11, 2)) ∧ (decode cX11_both 150 = .ok (.iload 12, 2)) ∧ (decode cX11_both 152 = .ok (.imul, 1)) ∧ (decode cX11_both 153 = .ok (.goto 32, 3)) := by decide +kernel
def dX11_both_130 := db_cX11_both_dX11_both_130_7.1
def dX11_both_133 := db_cX11_both_dX11_both_130_7.2.1
def dX11_both_135 := db_cX11_both_dX11_both_130_7.2.2.1
def dX11_both_137 := db_cX11_both_dX11_both_130_7.2.2.2.1
def dX11_both_140 := db_cX11_both_dX11_both_130_7.2.2.2.2.1
def dX11_both_143 := db_cX11_both_dX11_both_130_7.2.2.2.2.2.1
def dX11_both_144 := db_cX11_both_dX11_both_130_7.2.2.2.2.2.2.1
def dX11_both_145 := db_cX11_both_dX11_both_130_7.2.2.2.2.2.2.2.1
def dX11_both_148 := db_cX11_both_dX11_both_130_7.2.2.2.2.2.2.2.2.1
def dX11_both_150 := db_cX11_both_dX11_both_130_7.2.2.2.2.2.2.2.2.2.1
def dX11_both_152 := db_cX11_both_dX11_both_130_7.2.2.2.2.2.2.2.2.2.2.1
def dX11_both_153 := db_cX11_both_dX11_both_130_7.2.2.2.2.2.2.2.2.2.2.2
set_option maxRecDepth 100000 in
theorem db_cX11_both_dX11_both_156_8 : (decode cX11_both 156 = .ok (.iload_n 3, 1)) ∧ (decode cX11_both 157 = .ok (.iconst 2, 1)) ∧ (decode cX11_both 158 = .ok (.if_icmp .ne 15, 3)) ∧ (decode cX11_both 161 = .ok (.iload 11, 2)) ∧ (decode cX11_both 163 = .ok (.iload 12, 2)) ∧ (decode cX11_both 165 = .ok (.isub, 1)) ∧ (decode cX11_both 166 = .ok (.iconst 0, 1)) ∧ (decode cX11_both 167 = .ok (.invokestatic 87, 3)) ∧ (decode cX11_both 170 = .ok (.goto 15, 3)) ∧ (decode cX11_both 173 = .ok (.iload 11, 2)) ∧ (decode cX11_both 175 = .ok (.iload 12, 2)) ∧ (decode cX11_both 177 = .ok (.if_icmp .ne 7, 3)) := by decide +kernel
def dX11_both_156 := db_cX11_both_dX11_both_156_8.1
def dX11_both_157 := db_cX11_both_dX11_both_156_8.2.1
def dX11_both_158 := db_cX11_both_dX11_both_156_8.2.2.1
def dX11_both_161 := db_cX11_both_dX11_both_156_8.2.2.2.1
def dX11_both_163 := db_cX11_both_dX11_both_156_8.2.2.2.2.1
def dX11_both_165 := db_cX11_both_dX11_both_156_8.2.2.2.2.2.1
def dX11_both_166 := db_cX11_both_dX11_both_156_8.2.2.2.2.2.2.1
def dX11_both_167 := db_cX11_both_dX11_both_156_8.2.2.2.2.2.2.2.1
def dX11_both_170 := db_cX11_both_dX11_both_156_8.2.2.2.2.2.2.2.2.1
def dX11_both_173 := db_cX11_both_dX11_both_156_8.2.2.2.2.2.2.2.2.2.1
def dX11_both_175 := db_cX11_both_dX11_both_156_8.2.2.2.2.2.2.2.2.2.2.1
def dX11_both_177 := db_cX11_both_dX11_both_156_8.2.2.2.2.2.2.2.2.2.2.2
set_option maxRecDepth 100000 in
theorem db_cX11_both_dX11_both_180_9 : (decode cX11_both 180 = .ok (.iconst 0, 1)) ∧ (decode cX11_both 181 = .ok (.goto 4, 3)) ∧ (decode cX11_both 184 = .ok (.iconst 1, 1)) ∧ (decode cX11_both 185 = .ok (.iastore, 1)) ∧ (decode cX11_both 186 = .ok (.iconst 0, 1)) ∧ (decode cX11_both 187 = .ok (.istore 13, 2)) ∧ (decode cX11_both 189 = .ok (.iload 13, 2)) ∧ (decode cX11_both 191 = .ok (.iconst 3, 1)) ∧ (decode cX11_both 192 = .ok (.if_icmp .ge 74, 3)) ∧ (decode cX11_both 195 = .ok (.aload 4, 2)) ∧ (decode cX11_both 197 = .ok (.iconst 4, 1)) ∧ (decode cX11_both 198 = .ok (.iload 9, 2)) := by decide +kernel
def dX11_both_180 := db_cX11_both_dX11_both_180_9.1
def dX11_both_181 := db_cX11_both_dX11_both_180_9.2.1
def dX11_both_184 := db_cX11_both_dX11_both_180_9.2.2.1
def dX11_both_185 := db_cX11_both_dX11_both_180_9.2.2.2.1
def dX11_both_186 := db_cX11_both_dX11_both_180_9.2.2.2.2.1
def dX11_both_187 := db_cX11_both_dX11_both_180_9.2.2.2.2.2.1
def dX11_both_189 := db_cX11_both_dX11_both_180_9.2.2.2.2.2.2.1
def dX11_both_191 := db_cX11_both_dX11_both_180_9.2.2.2.2.2.2.2.1
def dX11_both_192 := db_cX11_both_dX11_both_180_9.2.2.2.2.2.2.2.2.1
def dX11_both_195 := db_cX11_both_dX11_both_180_9.2.2.2.2.2.2.2.2.2.1
def dX11_both_197 := db_cX11_both_dX11_both_180_9.2.2.2.2.2.2.2.2.2.2.1
def dX11_both_198 := db_cX11_both_dX11_both_180_9.2.2.2.2.2.2.2.2.2.2.2
set_option maxRecDepth 100000 in
theorem db_cX11_both_dX11_both_200_10 : (decode cX11_both 200 = .ok (.imul, 1)) ∧ (decode cX11_both 201 = .ok (.iload 13, 2)) ∧ (decode cX11_both 203 = .ok (.iadd, 1)) ∧ (decode cX11_both 204 = .ok (.iaload, 1)) ∧ (decode cX11_both 205 = .ok (.bipush 32, 2)) ∧ (decode cX11_both 207 = .ok (.imul, 1)) ∧ (decode cX11_both 208 = .ok (.aload 5, 2)) ∧ (decode cX11_both 210 = .ok (.iconst 4, 1)) ∧ (decode cX11_both 211 = .ok (.iload 10, 2)) ∧ (decode cX11_both 213 = .ok (.imul, 1)) ∧ (decode cX11_both 214 = .ok (.iload 13, 2)) ∧ (decode cX11_both 216 = .ok (.iadd, 1)) := by decide +kernel
def dX11_both_200 := db_cX11_both_dX11_both_200_10.1
def dX11_both_201 := db_cX11_both_dX11_both_200_10.2.1
def dX11_both_203 := db_cX11_both_dX11_both_200_10.2.2.1
def dX11_both_204 := db_cX11_both_dX11_both_200_10.2.2.2.1
def dX11_both_205 := db_cX11_both_dX11_both_200_10.2.2.2.2.1
def dX11_both_207 := db_cX11_both_dX11_both_200_10.2.2.2.2.2.1
def dX11_both_208 := db_cX11_both_dX11_both_200_10.2.2.2.2.2.2.1
def dX11_both_210 := db_cX11_both_dX11_both_200_10.2.2.2.2.2.2.2.1
def dX11_both_211 := db_cX11_both_dX11_both_200_10.2.2.2.2.2.2.2.2.1
def dX11_both_213 := db_cX11_both_dX11_both_200_10.2.2.2.2.2.2.2.2.2.1
def dX11_both_214 := db_cX11_both_dX11_both_200_10.2.2.2.2.2.2.2.2.2.2.1
def dX11_both_216 := db_cX11_both_dX11_both_200_10.2.2.2.2.2.2.2.2.2.2.2
set_option maxRecDepth 100000 in
theorem db_cX11_both_dX11_both_217_11 : (decode cX11_both 217 = .ok (.iaload, 1)) ∧ (decode cX11_both 218 = .ok (.iadd, 1)) ∧ (decode cX11_both 219 = .ok (.istore 14, 2)) ∧ (decode cX11_both 221 = .ok (.aload 6, 2)) ∧ (decode cX11_both 223 = .ok (.iconst 3, 1)) ∧ (decode cX11_both 224 = .ok (.aload 7, 2)) ∧ (decode cX11_both 226 = .ok (.iconst 4, 1)) ∧ (decode cX11_both 227 = .ok (.iload 8, 2)) ∧ (decode cX11_both 229 = .ok (.imul, 1)) ∧ (decode cX11_both 230 = .ok (.iload 13, 2)) ∧ (decode cX11_both 232 = .ok (.iadd, 1)) ∧ (decode cX11_both 233 = .ok (.iaload, 1)) := by decide +kernel
def dX11_both_217 := db_cX11_both_dX11_both_217_11.1
def dX11_both_218 := db_cX11_both_dX11_both_217_11.2.1
def dX11_both_219 := db_cX11_both_dX11_both_217_11.2.2.1
def dX11_both_221 := db_cX11_both_dX11_both_217_11.2.2.2.1
def dX11_both_223 := db_cX11_both_dX11_both_217_11.2.2.2.2.1
def dX11_both_224 := db_cX11_both_dX11_both_217_11.2.2.2.2.2.1
def dX11_both_226 := db_cX11_both_dX11_both_217_11.2.2.2.2.2.2.1
def dX11_both_227 := db_cX11_both_dX11_both_217_11.2.2.2.2.2.2.2.1
def dX11_both_229 := db_cX11_both_dX11_both_217_11.2.2.2.2.2.2.2.2.1
def dX11_both_230 := db_cX11_both_dX11_both_217_11.2.2.2.2.2.2.2.2.2.1
def dX11_both_232 := db_cX11_both_dX11_both_217_11.2.2.2.2.2.2.2.2.2.2.1
def dX11_both_233 := db_cX11_both_dX11_both_217_11.2.2.2.2.2.2.2.2.2.2.2
set_option maxRecDepth 100000 in
theorem db_cX11_both_dX11_both_234_12 : (decode cX11_both 234 = .ok (.imul, 1)) ∧ (decode cX11_both 235 = .ok (.iconst 1, 1)) ∧ (decode cX11_both 236 = .ok (.iadd, 1)) ∧ (decode cX11_both 237 = .ok (.iaload, 1)) ∧ (decode cX11_both 238 = .ok (.iload 14, 2)) ∧ (decode cX11_both 240 = .ok (.if_icmp .eq 20, 3)) ∧ (decode cX11_both 243 = .ok (.aload 7, 2)) ∧ (decode cX11_both 245 = .ok (.iconst 4, 1)) ∧ (decode cX11_both 246 = .ok (.iload 8, 2)) ∧ (decode cX11_both 248 = .ok (.imul, 1)) ∧ (decode cX11_both 249 = .ok (.iload 13, 2)) ∧ (decode cX11_both 251 = .ok (.iadd, 1)) := by decide +kernel
def dX11_both_234 := db_cX11_both_dX11_both_234_12.1
def dX11_both_235 := db_cX11_both_dX11_both_234_12.2.1
def dX11_both_236 := db_cX11_both_dX11_both_234_12.2.2.1
def dX11_both_237 := db_cX11_both_dX11_both_234_12.2.2.2.1
def dX11_both_238 := db_cX11_both_dX11_both_234_12.2.2.2.2.1
def dX11_both_240 := db_cX11_both_dX11_both_234_12.2.2.2.2.2.1
def dX11_both_243 := db_cX11_both_dX11_both_234_12.2.2.2.2.2.2.1
def dX11_both_245 := db_cX11_both_dX11_both_234_12.2.2.2.2.2.2.2.1
def dX11_both_246 := db_cX11_both_dX11_both_234_12.2.2.2.2.2.2.2.2.1
def dX11_both_248 := db_cX11_both_dX11_both_234_12.2.2.2.2.2.2.2.2.2.1
def dX11_both_249 := db_cX11_both_dX11_both_234_12.2.2.2.2.2.2.2.2.2.2.1
def dX11_both_251 := db_cX11_both_dX11_both_234_12.2.2.2.2.2.2.2.2.2.2.2
set_option maxRecDepth 100000 in
theorem db_cX11_both_dX11_both_252_13 : (decode cX11_both 252 = .ok (.dup2, 1)) ∧ (decode cX11_both 253 = .ok (.iaload, 1)) ∧ (decode cX11_both 254 = .ok (.iconst 1, 1)) ∧ (decode cX11_both 255 = .ok (.iadd, 1)) ∧ (decode cX11_both 256 = .ok (.iastore, 1)) ∧ (decode cX11_both 257 = .ok (.goto (-36), 3)) ∧ (decode cX11_both 260 = .ok (.iinc 13 1, 3)) ∧ (decode cX11_both 263 = .ok (.goto (-74), 3)) ∧ (decode cX11_both 266 = .ok (.iinc 8 1, 3)) ∧ (decode cX11_both 269 = .ok (.goto (-207), 3)) ∧ (decode cX11_both 272 = .ok (.aload 7, 2)) ∧ (decode cX11_both 274 = .ok (.areturn, 1)) := by decide +kernel
def dX11_both_252 := db_cX11_both_dX11_both_252_13.1
def dX11_both_253 := db_cX11_both_dX11_both_252_13.2.1
def dX11_both_254 := db_cX11_both_dX11_both_252_13.2.2.1
def dX11_both_255 := db_cX11_both_dX11_both_252_13.2.2.2.1
def dX11_both_256 := db_cX11_both_dX11_both_252_13.2.2.2.2.1
def dX11_both_257 := db_cX11_both_dX11_both_252_13.2.2.2.2.2.1
def dX11_both_260 := db_cX11_both_dX11_both_252_13.2.2.2.2.2.2.1
def dX11_both_263 := db_cX11_both_dX11_both_252_13.2.2.2.2.2.2.2.1
def dX11_both_266 := db_cX11_both_dX11_both_252_13.2.2.2.2.2.2.2.2.1
def dX11_both_269 := db_cX11_both_dX11_both_252_13.2.2.2.2.2.2.2.2.2.1
def dX11_both_272 := db_cX11_both_dX11_both_252_13.2.2.2.2.2.2.2.2.2.2.1
def dX11_both_274 := db_cX11_both_dX11_both_252_13.2.2.2.2.2.2.2.2.2.2.2
set_option maxRecDepth 100000 in
theorem db_cX11_clear_dX11_clear_0_0 : (decode cX11_clear 0 = .ok (.aload_n 0, 1)) ∧ (decode cX11_clear 1 = .ok (.getfield 7, 3)) ∧ (decode cX11_clear 4 = .ok (.iload_n 1, 1)) ∧ (decode cX11_clear 5 = .ok (.iload_n 2, 1)) ∧ (decode cX11_clear 6 = .ok (.iastore, 1)) ∧ (decode cX11_clear 7 = .ok (.aload_n 0, 1)) ∧ (decode cX11_clear 8 = .ok (.getfield 13, 3)) ∧ (decode cX11_clear 11 = .ok (.iload_n 1, 1)) ∧ (decode cX11_clear 12 = .ok (.iconst 1, 1)) ∧ (decode cX11_clear 13 = .ok (.iastore, 1)) ∧ (decode cX11_clear 14 = .ok (.aload_n 0, 1)) ∧ (decode cX11_clear 15 = .ok (.getfield 16, 3)) := by decide +kernel
def dX11_clear_0 := db_cX11_clear_dX11_clear_0_0.1
def dX11_clear_1 := db_cX11_clear_dX11_clear_0_0.2.1
def dX11_clear_4 := db_cX11_clear_dX11_clear_0_0.2.2.1
def dX11_clear_5 := db_cX11_clear_dX11_clear_0_0.2.2.2.1
def dX11_clear_6 := db_cX11_clear_dX11_clear_0_0.2.2.2.2.1
def dX11_clear_7 := db_cX11_clear_dX11_clear_0_0.2.2.2.2.2.1
def dX11_clear_8 := db_cX11_clear_dX11_clear_0_0.2.2.2.2.2.2.1
def dX11_clear_11 := db_cX11_clear_dX11_clear_0_0.2.2.2.2.2.2.2.1
def dX11_clear_12 := db_cX11_clear_dX11_clear_0_0.2.2.2.2.2.2.2.2.1
def dX11_clear_13 := db_cX11_clear_dX11_clear_0_0.2.2.2.2.2.2.2.2.2.1
def dX11_clear_14 := db_cX11_clear_dX11_clear_0_0.2.2.2.2.2.2.2.2.2.2.1
def dX11_clear_15 := db_cX11_clear_dX11_clear_0_0.2.2.2.2.2.2.2.2.2.2.2
set_option maxRecDepth 100000 in
theorem db_cX11_clear_dX11_clear_18_1 : (decode cX11_clear 18 = .ok (.iload_n 1, 1)) ∧ (decode cX11_clear 19 = .ok (.iconst 0, 1)) ∧ (decode cX11_clear 20 = .ok (.iastore, 1)) ∧ (decode cX11_clear 21 = .ok (.iconst 0, 1)) ∧ (decode cX11_clear 22 = .ok (.istore_n 3, 1)) ∧ (decode cX11_clear 23 = .ok (.iload_n 3, 1)) ∧ (decode cX11_clear 24 = .ok (.bipush 21, 2)) ∧ (decode cX11_clear 26 = .ok (.if_icmp .ge 23, 3)) ∧ (decode cX11_clear 29 = .ok (.aload_n 0, 1)) ∧ (decode cX11_clear 30 = .ok (.getfield 19, 3)) ∧ (decode cX11_clear 33 = .ok (.iload_n 1, 1)) ∧ (decode cX11_clear 34 = .ok (.iconst 0, 1)) := by decide +kernel
def dX11_clear_18 := db_cX11_clear_dX11_clear_18_1.1
def dX11_clear_19 := db_cX11_clear_dX11_clear_18_1.2.1
def dX11_clear_20 := db_cX11_clear_dX11_clear_18_1.2.2.1
def dX11_clear_21 := db_cX11_clear_dX11_clear_18_1.2.2.2.1
def dX11_clear_22 := db_cX11_clear_dX11_clear_18_1.2.2.2.2.1
def dX11_clear_23 := db_cX11_clear_dX11_clear_18_1.2.2.2.2.2.1
def dX11_clear_24 := db_cX11_clear_dX11_clear_18_1.2.2.2.2.2.2.1
def dX11_clear_26 := db_cX11_clear_dX11_clear_18_1.2.2.2.2.2.2.2.1
def dX11_clear_29 := db_cX11_clear_dX11_clear_18_1.2.2.2.2.2.2.2.2.1
def dX11_clear_30 := db_cX11_clear_dX11_clear_18_1.2.2.2.2.2.2.2.2.2.1
def dX11_clear_33 := db_cX11_clear_dX11_clear_18_1.2.2.2.2.2.2.2.2.2.2.1
def dX11_clear_34 := db_cX11_clear_dX11_clear_18_1.2.2.2.2.2.2.2.2.2.2.2
set_option maxRecDepth 100000 in
theorem db_cX11_clear_dX11_clear_35_2 : (decode cX11_clear 35 = .ok (.iconst 0, 1)) ∧ (decode cX11_clear 36 = .ok (.invokestatic 36, 3)) ∧ (decode cX11_clear 39 = .ok (.iload_n 3, 1)) ∧ (decode cX11_clear 40 = .ok (.iadd, 1)) ∧ (decode cX11_clear 41 = .ok (.iconst 0, 1)) ∧ (decode cX11_clear 42 = .ok (.iastore, 1)) ∧ (decode cX11_clear 43 = .ok (.iinc 3 1, 3)) ∧ (decode cX11_clear 46 = .ok (.goto (-23), 3)) ∧ (decode cX11_clear 49 = .ok (.return_, 1)) := by decide +kernel
def dX11_clear_35 := db_cX11_clear_dX11_clear_35_2.1
def dX11_clear_36 := db_cX11_clear_dX11_clear_35_2.2.1
def dX11_clear_39 := db_cX11_clear_dX11_clear_35_2.2.2.1
def dX11_clear_40 := db_cX11_clear_dX11_clear_35_2.2.2.2.1
def dX11_clear_41 := db_cX11_clear_dX11_clear_35_2.2.2.2.2.1
def dX11_clear_42 := db_cX11_clear_dX11_clear_35_2.2.2.2.2.2.1
def dX11_clear_43 := db_cX11_clear_dX11_clear_35_2.2.2.2.2.2.2.1
def dX11_clear_46 := db_cX11_clear_dX11_clear_35_2.2.2.2.2.2.2.2.1
def dX11_clear_49 := db_cX11_clear_dX11_clear_35_2.2.2.2.2.2.2.2.2
set_option maxRecDepth 100000 in
theorem db_cX11_begin_dX11_begin_0_0 : (decode cX11_begin 0 = .ok (.aload_n 0, 1)) ∧ (decode cX11_begin 1 = .ok (.iload_n 1, 1)) ∧ (decode cX11_begin 2 = .ok (.invokestatic 93, 3)) ∧ (decode cX11_begin 5 = .ok (.iload_n 2, 1)) ∧ (decode cX11_begin 6 = .ok (.iconst 1, 1)) ∧ (decode cX11_begin 7 = .ok (.bipush 7, 2)) ∧ (decode cX11_begin 9 = .ok (.invokestatic 26, 3)) ∧ (decode cX11_begin 12 = .ok (.invokevirtual 97, 3)) ∧ (decode cX11_begin 15 = .ok (.ifCond .eq 5, 3)) ∧ (decode cX11_begin 18 = .ok (.iconst 0, 1)) ∧ (decode cX11_begin 19 = .ok (.ireturn, 1)) ∧ (decode cX11_begin 20 = .ok (.aload_n 0, 1)) := by decide +kernel
def dX11_begin_0 := db_cX11_begin_dX11_begin_0_0.1
def dX11_begin_1 := db_cX11_begin_dX11_begin_0_0.2.1
def dX11_begin_2 := db_cX11_begin_dX11_begin_0_0.2.2.1
def dX11_begin_5 := db_cX11_begin_dX11_begin_0_0.2.2.2.1
def dX11_begin_6 := db_cX11_begin_dX11_begin_0_0.2.2.2.2.1
def dX11_begin_7 := db_cX11_begin_dX11_begin_0_0.2.2.2.2.2.1
def dX11_begin_9 := db_cX11_begin_dX11_begin_0_0.2.2.2.2.2.2.1
def dX11_begin_12 := db_cX11_begin_dX11_begin_0_0.2.2.2.2.2.2.2.1
def dX11_begin_15 := db_cX11_begin_dX11_begin_0_0.2.2.2.2.2.2.2.2.1
def dX11_begin_18 := db_cX11_begin_dX11_begin_0_0.2.2.2.2.2.2.2.2.2.1
def dX11_begin_19 := db_cX11_begin_dX11_begin_0_0.2.2.2.2.2.2.2.2.2.2.1
def dX11_begin_20 := db_cX11_begin_dX11_begin_0_0.2.2.2.2.2.2.2.2.2.2.2
set_option maxRecDepth 100000 in
theorem db_cX11_begin_dX11_begin_21_1 : (decode cX11_begin 21 = .ok (.iload_n 1, 1)) ∧ (decode cX11_begin 22 = .ok (.invokevirtual 101, 3)) ∧ (decode cX11_begin 25 = .ok (.istore_n 3, 1)) ∧ (decode cX11_begin 26 = .ok (.aload_n 0, 1)) ∧ (decode cX11_begin 27 = .ok (.iload_n 1, 1)) ∧ (decode cX11_begin 28 = .ok (.iload_n 2, 1)) ∧ (decode cX11_begin 29 = .ok (.invokevirtual 104, 3)) ∧ (decode cX11_begin 32 = .ok (.aload_n 0, 1)) ∧ (decode cX11_begin 33 = .ok (.iload_n 3, 1)) ∧ (decode cX11_begin 34 = .ok (.invokevirtual 108, 3)) ∧ (decode cX11_begin 37 = .ok (.ireturn, 1)) := by decide +kernel
def dX11_begin_21 := db_cX11_begin_dX11_begin_21_1.1
def dX11_begin_22 := db_cX11_begin_dX11_begin_21_1.2.1
def dX11_begin_25 := db_cX11_begin_dX11_begin_21_1.2.2.1
def dX11_begin_26 := db_cX11_begin_dX11_begin_21_1.2.2.2.1
def dX11_begin_27 := db_cX11_begin_dX11_begin_21_1.2.2.2.2.1
def dX11_begin_28 := db_cX11_begin_dX11_begin_21_1.2.2.2.2.2.1
def dX11_begin_29 := db_cX11_begin_dX11_begin_21_1.2.2.2.2.2.2.1
def dX11_begin_32 := db_cX11_begin_dX11_begin_21_1.2.2.2.2.2.2.2.1
def dX11_begin_33 := db_cX11_begin_dX11_begin_21_1.2.2.2.2.2.2.2.2.1
def dX11_begin_34 := db_cX11_begin_dX11_begin_21_1.2.2.2.2.2.2.2.2.2.1
def dX11_begin_37 := db_cX11_begin_dX11_begin_21_1.2.2.2.2.2.2.2.2.2.2
set_option maxRecDepth 100000 in
theorem db_cX11_isNoArrow_dX11_isNoArrow_0_0 : (decode cX11_isNoArrow 0 = .ok (.aload_n 0, 1)) ∧ (decode cX11_isNoArrow 1 = .ok (.iload_n 1, 1)) ∧ (decode cX11_isNoArrow 2 = .ok (.invokestatic 93, 3)) ∧ (decode cX11_isNoArrow 5 = .ok (.ifCond .eq 26, 3)) ∧ (decode cX11_isNoArrow 8 = .ok (.aload_n 0, 1)) ∧ (decode cX11_isNoArrow 9 = .ok (.iload_n 1, 1)) ∧ (decode cX11_isNoArrow 10 = .ok (.iload_n 2, 1)) ∧ (decode cX11_isNoArrow 11 = .ok (.invokevirtual 111, 3)) ∧ (decode cX11_isNoArrow 14 = .ok (.ifCond .eq 17, 3)) ∧ (decode cX11_isNoArrow 17 = .ok (.aload_n 0, 1)) ∧ (decode cX11_isNoArrow 18 = .ok (.iload_n 1, 1)) ∧ (decode cX11_isNoArrow 19 = .ok (.iload 4, 2)) := by decide +kernel
def dX11_isNoArrow_0 := db_cX11_isNoArrow_dX11_isNoArrow_0_0.1
def dX11_isNoArrow_1 := db_cX11_isNoArrow_dX11_isNoArrow_0_0.2.1
def dX11_isNoArrow_2 := db_cX11_isNoArrow_dX11_isNoArrow_0_0.2.2.1
def dX11_isNoArrow_5 := db_cX11_isNoArrow_dX11_isNoArrow_0_0.2.2.2.1
def dX11_isNoArrow_8 := db_cX11_isNoArrow_dX11_isNoArrow_0_0.2.2.2.2.1
def dX11_isNoArrow_9 := db_cX11_isNoArrow_dX11_isNoArrow_0_0.2.2.2.2.2.1
def dX11_isNoArrow_10 := db_cX11_isNoArrow_dX11_isNoArrow_0_0.2.2.2.2.2.2.1
def dX11_isNoArrow_11 := db_cX11_isNoArrow_dX11_isNoArrow_0_0.2.2.2.2.2.2.2.1
def dX11_isNoArrow_14 := db_cX11_isNoArrow_dX11_isNoArrow_0_0.2.2.2.2.2.2.2.2.1
def dX11_isNoArrow_17 := db_cX11_isNoArrow_dX11_isNoArrow_0_0.2.2.2.2.2.2.2.2.2.1
def dX11_isNoArrow_18 := db_cX11_isNoArrow_dX11_isNoArrow_0_0.2.2.2.2.2.2.2.2.2.2.1
def dX11_isNoArrow_19 := db_cX11_isNoArrow_dX11_isNoArrow_0_0.2.2.2.2.2.2.2.2.2.2.2
set_option maxRecDepth 100000 in
theorem db_cX11_isNoArrow_dX11_isNoArrow_21_1 : (decode cX11_isNoArrow 21 = .ok (.invokevirtual 111, 3)) ∧ (decode cX11_isNoArrow 24 = .ok (.ifCond .eq 7, 3)) ∧ (decode cX11_isNoArrow 27 = .ok (.iconst 1, 1)) ∧ (decode cX11_isNoArrow 28 = .ok (.goto 4, 3)) ∧ (decode cX11_isNoArrow 31 = .ok (.iconst 0, 1)) ∧ (decode cX11_isNoArrow 32 = .ok (.iload_n 3, 1)) ∧ (decode cX11_isNoArrow 33 = .ok (.iconst 0, 1)) ∧ (decode cX11_isNoArrow 34 = .ok (.iconst 2, 1)) ∧ (decode cX11_isNoArrow 35 = .ok (.invokestatic 26, 3)) ∧ (decode cX11_isNoArrow 38 = .ok (.invokevirtual 97, 3)) ∧ (decode cX11_isNoArrow 41 = .ok (.ireturn, 1)) := by decide +kernel
def dX11_isNoArrow_21 := db_cX11_isNoArrow_dX11_isNoArrow_21_1.1
def dX11_isNoArrow_24 := db_cX11_isNoArrow_dX11_isNoArrow_21_1.2.1
def dX11_isNoArrow_27 := db_cX11_isNoArrow_dX11_isNoArrow_21_1.2.2.1
def dX11_isNoArrow_28 := db_cX11_isNoArrow_dX11_isNoArrow_21_1.2.2.2.1
def dX11_isNoArrow_31 := db_cX11_isNoArrow_dX11_isNoArrow_21_1.2.2.2.2.1
def dX11_isNoArrow_32 := db_cX11_isNoArrow_dX11_isNoArrow_21_1.2.2.2.2.2.1
def dX11_isNoArrow_33 := db_cX11_isNoArrow_dX11_isNoArrow_21_1.2.2.2.2.2.2.1
def dX11_isNoArrow_34 := db_cX11_isNoArrow_dX11_isNoArrow_21_1.2.2.2.2.2.2.2.1
def dX11_isNoArrow_35 := db_cX11_isNoArrow_dX11_isNoArrow_21_1.2.2.2.2.2.2.2.2.1
def dX11_isNoArrow_38 := db_cX11_isNoArrow_dX11_isNoArrow_21_1.2.2.2.2.2.2.2.2.2.1
def dX11_isNoArrow_41 := db_cX11_isNoArrow_dX11_isNoArrow_21_1.2.2.2.2.2.2.2.2.2.2
set_option maxRecDepth 100000 in
theorem db_cX11_arrow_dX11_arrow_0_0 : (decode cX11_arrow 0 = .ok (.aload_n 0, 1)) ∧ (decode cX11_arrow 1 = .ok (.iload_n 1, 1)) ∧ (decode cX11_arrow 2 = .ok (.iload_n 2, 1)) ∧ (decode cX11_arrow 3 = .ok (.iload_n 3, 1)) ∧ (decode cX11_arrow 4 = .ok (.iload 4, 2)) ∧ (decode cX11_arrow 6 = .ok (.invokevirtual 115, 3)) ∧ (decode cX11_arrow 9 = .ok (.ifCond .eq 5, 3)) ∧ (decode cX11_arrow 12 = .ok (.iconst 0, 1)) ∧ (decode cX11_arrow 13 = .ok (.ireturn, 1)) ∧ (decode cX11_arrow 14 = .ok (.iload_n 1, 1)) ∧ (decode cX11_arrow 15 = .ok (.iload_n 2, 1)) ∧ (decode cX11_arrow 16 = .ok (.iload_n 3, 1)) := by decide +kernel
def dX11_arrow_0 := db_cX11_arrow_dX11_arrow_0_0.1
def dX11_arrow_1 := db_cX11_arrow_dX11_arrow_0_0.2.1
def dX11_arrow_2 := db_cX11_arrow_dX11_arrow_0_0.2.2.1
def dX11_arrow_3 := db_cX11_arrow_dX11_arrow_0_0.2.2.2.1
def dX11_arrow_4 := db_cX11_arrow_dX11_arrow_0_0.2.2.2.2.1
def dX11_arrow_6 := db_cX11_arrow_dX11_arrow_0_0.2.2.2.2.2.1
def dX11_arrow_9 := db_cX11_arrow_dX11_arrow_0_0.2.2.2.2.2.2.1
def dX11_arrow_12 := db_cX11_arrow_dX11_arrow_0_0.2.2.2.2.2.2.2.1
def dX11_arrow_13 := db_cX11_arrow_dX11_arrow_0_0.2.2.2.2.2.2.2.2.1
def dX11_arrow_14 := db_cX11_arrow_dX11_arrow_0_0.2.2.2.2.2.2.2.2.2.1
def dX11_arrow_15 := db_cX11_arrow_dX11_arrow_0_0.2.2.2.2.2.2.2.2.2.2.1
def dX11_arrow_16 := db_cX11_arrow_dX11_arrow_0_0.2.2.2.2.2.2.2.2.2.2.2
set_option maxRecDepth 100000 in
theorem db_cX11_arrow_dX11_arrow_17_1 : (decode cX11_arrow 17 = .ok (.invokestatic 36, 3)) ∧ (decode cX11_arrow 20 = .ok (.istore 6, 2)) ∧ (decode cX11_arrow 22 = .ok (.aload_n 0, 1)) ∧ (decode cX11_arrow 23 = .ok (.getfield 19, 3)) ∧ (decode cX11_arrow 26 = .ok (.iload 6, 2)) ∧ (decode cX11_arrow 28 = .ok (.iaload, 1)) ∧ (decode cX11_arrow 29 = .ok (.istore 7, 2)) ∧ (decode cX11_arrow 31 = .ok (.aload_n 0, 1)) ∧ (decode cX11_arrow 32 = .ok (.getfield 19, 3)) ∧ (decode cX11_arrow 35 = .ok (.iload 6, 2)) ∧ (decode cX11_arrow 37 = .ok (.iload 5, 2)) ∧ (decode cX11_arrow 39 = .ok (.ifCond .eq 13, 3)) := by decide +kernel
def dX11_arrow_17 := db_cX11_arrow_dX11_arrow_17_1.1
def dX11_arrow_20 := db_cX11_arrow_dX11_arrow_17_1.2.1
def dX11_arrow_22 := db_cX11_arrow_dX11_arrow_17_1.2.2.1
def dX11_arrow_23 := db_cX11_arrow_dX11_arrow_17_1.2.2.2.1
def dX11_arrow_26 := db_cX11_arrow_dX11_arrow_17_1.2.2.2.2.1
def dX11_arrow_28 := db_cX11_arrow_dX11_arrow_17_1.2.2.2.2.2.1
def dX11_arrow_29 := db_cX11_arrow_dX11_arrow_17_1.2.2.2.2.2.2.1
def dX11_arrow_31 := db_cX11_arrow_dX11_arrow_17_1.2.2.2.2.2.2.2.1
def dX11_arrow_32 := db_cX11_arrow_dX11_arrow_17_1.2.2.2.2.2.2.2.2.1
def dX11_arrow_35 := db_cX11_arrow_dX11_arrow_17_1.2.2.2.2.2.2.2.2.2.1
def dX11_arrow_37 := db_cX11_arrow_dX11_arrow_17_1.2.2.2.2.2.2.2.2.2.2.1
def dX11_arrow_39 := db_cX11_arrow_dX11_arrow_17_1.2.2.2.2.2.2.2.2.2.2.2
set_option maxRecDepth 100000 in
theorem db_cX11_arrow_dX11_arrow_42_2 : (decode cX11_arrow 42 = .ok (.iload 7, 2)) ∧ (decode cX11_arrow 44 = .ok (.iconst 1, 1)) ∧ (decode cX11_arrow 45 = .ok (.iload 4, 2)) ∧ (decode cX11_arrow 47 = .ok (.ishl, 1)) ∧ (decode cX11_arrow 48 = .ok (.ior, 1)) ∧ (decode cX11_arrow 49 = .ok (.goto 12, 3)) ∧ (decode cX11_arrow 52 = .ok (.iload 7, 2)) ∧ (decode cX11_arrow 54 = .ok (.iconst 1, 1)) ∧ (decode cX11_arrow 55 = .ok (.iload 4, 2)) ∧ (decode cX11_arrow 57 = .ok (.ishl, 1)) ∧ (decode cX11_arrow 58 = .ok (.iconst (-1), 1)) ∧ (decode cX11_arrow 59 = .ok (.ixor, 1)) := by decide +kernel
def dX11_arrow_42 := db_cX11_arrow_dX11_arrow_42_2.1
def dX11_arrow_44 := db_cX11_arrow_dX11_arrow_42_2.2.1
def dX11_arrow_45 := db_cX11_arrow_dX11_arrow_42_2.2.2.1
def dX11_arrow_47 := db_cX11_arrow_dX11_arrow_42_2.2.2.2.1
def dX11_arrow_48 := db_cX11_arrow_dX11_arrow_42_2.2.2.2.2.1
def dX11_arrow_49 := db_cX11_arrow_dX11_arrow_42_2.2.2.2.2.2.1
def dX11_arrow_52 := db_cX11_arrow_dX11_arrow_42_2.2.2.2.2.2.2.1
def dX11_arrow_54 := db_cX11_arrow_dX11_arrow_42_2.2.2.2.2.2.2.2.1
def dX11_arrow_55 := db_cX11_arrow_dX11_arrow_42_2.2.2.2.2.2.2.2.2.1
def dX11_arrow_57 := db_cX11_arrow_dX11_arrow_42_2.2.2.2.2.2.2.2.2.2.1
def dX11_arrow_58 := db_cX11_arrow_dX11_arrow_42_2.2.2.2.2.2.2.2.2.2.2.1
def dX11_arrow_59 := db_cX11_arrow_dX11_arrow_42_2.2.2.2.2.2.2.2.2.2.2.2
set_option maxRecDepth 100000 in
theorem db_cX11_arrow_dX11_arrow_60_3 : (decode cX11_arrow 60 = .ok (.iand, 1)) ∧ (decode cX11_arrow 61 = .ok (.iastore, 1)) ∧ (decode cX11_arrow 62 = .ok (.aload_n 0, 1)) ∧ (decode cX11_arrow 63 = .ok (.iload 7, 2)) ∧ (decode cX11_arrow 65 = .ok (.aload_n 0, 1)) ∧ (decode cX11_arrow 66 = .ok (.getfield 19, 3)) ∧ (decode cX11_arrow 69 = .ok (.iload 6, 2)) ∧ (decode cX11_arrow 71 = .ok (.iaload, 1)) ∧ (decode cX11_arrow 72 = .ok (.if_icmp .ne 7, 3)) ∧ (decode cX11_arrow 75 = .ok (.iconst 0, 1)) ∧ (decode cX11_arrow 76 = .ok (.goto 4, 3)) ∧ (decode cX11_arrow 79 = .ok (.iconst 1, 1)) := by decide +kernel
def dX11_arrow_60 := db_cX11_arrow_dX11_arrow_60_3.1
def dX11_arrow_61 := db_cX11_arrow_dX11_arrow_60_3.2.1
def dX11_arrow_62 := db_cX11_arrow_dX11_arrow_60_3.2.2.1
def dX11_arrow_63 := db_cX11_arrow_dX11_arrow_60_3.2.2.2.1
def dX11_arrow_65 := db_cX11_arrow_dX11_arrow_60_3.2.2.2.2.1
def dX11_arrow_66 := db_cX11_arrow_dX11_arrow_60_3.2.2.2.2.2.1
def dX11_arrow_69 := db_cX11_arrow_dX11_arrow_60_3.2.2.2.2.2.2.1
def dX11_arrow_71 := db_cX11_arrow_dX11_arrow_60_3.2.2.2.2.2.2.2.1
def dX11_arrow_72 := db_cX11_arrow_dX11_arrow_60_3.2.2.2.2.2.2.2.2.1
def dX11_arrow_75 := db_cX11_arrow_dX11_arrow_60_3.2.2.2.2.2.2.2.2.2.1
def dX11_arrow_76 := db_cX11_arrow_dX11_arrow_60_3.2.2.2.2.2.2.2.2.2.2.1
def dX11_arrow_79 := db_cX11_arrow_dX11_arrow_60_3.2.2.2.2.2.2.2.2.2.2.2
theorem dX11_arrow_80 : decode cX11_arrow 80 = .ok (.invokevirtual 108, 3) := by decide +kernel
theorem dX11_arrow_83 : decode cX11_arrow 83 = .ok (.ireturn, 1) := by decide +kernel
set_option maxRecDepth 100000 in
theorem db_cX11_lead_dX11_lead_0_0 : (decode cX11_lead 0 = .ok (.aload_n 0, 1)) ∧ (decode cX11_lead 1 = .ok (.iload_n 1, 1)) ∧ (decode cX11_lead 2 = .ok (.iload_n 2, 1)) ∧ (decode cX11_lead 3 = .ok (.iload_n 3, 1)) ∧ (decode cX11_lead 4 = .ok (.iload 4, 2)) ∧ (decode cX11_lead 6 = .ok (.invokevirtual 115, 3)) ∧ (decode cX11_lead 9 = .ok (.ifCond .eq 5, 3)) ∧ (decode cX11_lead 12 = .ok (.iconst 0, 1)) ∧ (decode cX11_lead 13 = .ok (.ireturn, 1)) ∧ (decode cX11_lead 14 = .ok (.iload_n 1, 1)) ∧ (decode cX11_lead 15 = .ok (.iload_n 2, 1)) ∧ (decode cX11_lead 16 = .ok (.iload_n 3, 1)) := by decide +kernel
def dX11_lead_0 := db_cX11_lead_dX11_lead_0_0.1
def dX11_lead_1 := db_cX11_lead_dX11_lead_0_0.2.1
def dX11_lead_2 := db_cX11_lead_dX11_lead_0_0.2.2.1
def dX11_lead_3 := db_cX11_lead_dX11_lead_0_0.2.2.2.1
def dX11_lead_4 := db_cX11_lead_dX11_lead_0_0.2.2.2.2.1
def dX11_lead_6 := db_cX11_lead_dX11_lead_0_0.2.2.2.2.2.1
def dX11_lead_9 := db_cX11_lead_dX11_lead_0_0.2.2.2.2.2.2.1
def dX11_lead_12 := db_cX11_lead_dX11_lead_0_0.2.2.2.2.2.2.2.1
def dX11_lead_13 := db_cX11_lead_dX11_lead_0_0.2.2.2.2.2.2.2.2.1
def dX11_lead_14 := db_cX11_lead_dX11_lead_0_0.2.2.2.2.2.2.2.2.2.1
def dX11_lead_15 := db_cX11_lead_dX11_lead_0_0.2.2.2.2.2.2.2.2.2.2.1
def dX11_lead_16 := db_cX11_lead_dX11_lead_0_0.2.2.2.2.2.2.2.2.2.2.2
set_option maxRecDepth 100000 in
theorem db_cX11_lead_dX11_lead_17_1 : (decode cX11_lead 17 = .ok (.invokestatic 36, 3)) ∧ (decode cX11_lead 20 = .ok (.istore 5, 2)) ∧ (decode cX11_lead 22 = .ok (.aload_n 0, 1)) ∧ (decode cX11_lead 23 = .ok (.getfield 19, 3)) ∧ (decode cX11_lead 26 = .ok (.iload 5, 2)) ∧ (decode cX11_lead 28 = .ok (.iaload, 1)) ∧ (decode cX11_lead 29 = .ok (.istore 6, 2)) ∧ (decode cX11_lead 31 = .ok (.aload_n 0, 1)) ∧ (decode cX11_lead 32 = .ok (.getfield 19, 3)) ∧ (decode cX11_lead 35 = .ok (.iload 5, 2)) ∧ (decode cX11_lead 37 = .ok (.iconst 1, 1)) ∧ (decode cX11_lead 38 = .ok (.iload 4, 2)) := by decide +kernel
def dX11_lead_17 := db_cX11_lead_dX11_lead_17_1.1
def dX11_lead_20 := db_cX11_lead_dX11_lead_17_1.2.1
def dX11_lead_22 := db_cX11_lead_dX11_lead_17_1.2.2.1
def dX11_lead_23 := db_cX11_lead_dX11_lead_17_1.2.2.2.1
def dX11_lead_26 := db_cX11_lead_dX11_lead_17_1.2.2.2.2.1
def dX11_lead_28 := db_cX11_lead_dX11_lead_17_1.2.2.2.2.2.1
def dX11_lead_29 := db_cX11_lead_dX11_lead_17_1.2.2.2.2.2.2.1
def dX11_lead_31 := db_cX11_lead_dX11_lead_17_1.2.2.2.2.2.2.2.1
def dX11_lead_32 := db_cX11_lead_dX11_lead_17_1.2.2.2.2.2.2.2.2.1
def dX11_lead_35 := db_cX11_lead_dX11_lead_17_1.2.2.2.2.2.2.2.2.2.1
def dX11_lead_37 := db_cX11_lead_dX11_lead_17_1.2.2.2.2.2.2.2.2.2.2.1
def dX11_lead_38 := db_cX11_lead_dX11_lead_17_1.2.2.2.2.2.2.2.2.2.2.2
set_option maxRecDepth 100000 in
theorem db_cX11_lead_dX11_lead_40_2 : (decode cX11_lead 40 = .ok (.ishl, 1)) ∧ (decode cX11_lead 41 = .ok (.iastore, 1)) ∧ (decode cX11_lead 42 = .ok (.aload_n 0, 1)) ∧ (decode cX11_lead 43 = .ok (.iload 6, 2)) ∧ (decode cX11_lead 45 = .ok (.invokestatic 40, 3)) ∧ (decode cX11_lead 48 = .ok (.invokevirtual 108, 3)) ∧ (decode cX11_lead 51 = .ok (.ireturn, 1)) := by decide +kernel
def dX11_lead_40 := db_cX11_lead_dX11_lead_40_2.1
def dX11_lead_41 := db_cX11_lead_dX11_lead_40_2.2.1
def dX11_lead_42 := db_cX11_lead_dX11_lead_40_2.2.2.1
def dX11_lead_43 := db_cX11_lead_dX11_lead_40_2.2.2.2.1
def dX11_lead_45 := db_cX11_lead_dX11_lead_40_2.2.2.2.2.1
def dX11_lead_48 := db_cX11_lead_dX11_lead_40_2.2.2.2.2.2.1
def dX11_lead_51 := db_cX11_lead_dX11_lead_40_2.2.2.2.2.2.2
set_option maxRecDepth 100000 in
theorem db_cX11_mark_dX11_mark_0_0 : (decode cX11_mark 0 = .ok (.aload_n 0, 1)) ∧ (decode cX11_mark 1 = .ok (.iload_n 1, 1)) ∧ (decode cX11_mark 2 = .ok (.invokestatic 93, 3)) ∧ (decode cX11_mark 5 = .ok (.ifCond .eq 16, 3)) ∧ (decode cX11_mark 8 = .ok (.aload_n 0, 1)) ∧ (decode cX11_mark 9 = .ok (.iload_n 1, 1)) ∧ (decode cX11_mark 10 = .ok (.iload_n 2, 1)) ∧ (decode cX11_mark 11 = .ok (.invokevirtual 111, 3)) ∧ (decode cX11_mark 14 = .ok (.ifCond .eq 7, 3)) ∧ (decode cX11_mark 17 = .ok (.iconst 1, 1)) ∧ (decode cX11_mark 18 = .ok (.goto 4, 3)) ∧ (decode cX11_mark 21 = .ok (.iconst 0, 1)) := by decide +kernel
def dX11_mark_0 := db_cX11_mark_dX11_mark_0_0.1
def dX11_mark_1 := db_cX11_mark_dX11_mark_0_0.2.1
def dX11_mark_2 := db_cX11_mark_dX11_mark_0_0.2.2.1
def dX11_mark_5 := db_cX11_mark_dX11_mark_0_0.2.2.2.1
def dX11_mark_8 := db_cX11_mark_dX11_mark_0_0.2.2.2.2.1
def dX11_mark_9 := db_cX11_mark_dX11_mark_0_0.2.2.2.2.2.1
def dX11_mark_10 := db_cX11_mark_dX11_mark_0_0.2.2.2.2.2.2.1
def dX11_mark_11 := db_cX11_mark_dX11_mark_0_0.2.2.2.2.2.2.2.1
def dX11_mark_14 := db_cX11_mark_dX11_mark_0_0.2.2.2.2.2.2.2.2.1
def dX11_mark_17 := db_cX11_mark_dX11_mark_0_0.2.2.2.2.2.2.2.2.2.1
def dX11_mark_18 := db_cX11_mark_dX11_mark_0_0.2.2.2.2.2.2.2.2.2.2.1
def dX11_mark_21 := db_cX11_mark_dX11_mark_0_0.2.2.2.2.2.2.2.2.2.2.2
set_option maxRecDepth 100000 in
theorem db_cX11_mark_dX11_mark_22_1 : (decode cX11_mark 22 = .ok (.iconst 1, 1)) ∧ (decode cX11_mark 23 = .ok (.invokevirtual 97, 3)) ∧ (decode cX11_mark 26 = .ok (.ifCond .eq 5, 3)) ∧ (decode cX11_mark 29 = .ok (.iconst 0, 1)) ∧ (decode cX11_mark 30 = .ok (.ireturn, 1)) ∧ (decode cX11_mark 31 = .ok (.iload_n 3, 1)) ∧ (decode cX11_mark 32 = .ok (.ifCond .eq 10, 3)) ∧ (decode cX11_mark 35 = .ok (.aload_n 0, 1)) ∧ (decode cX11_mark 36 = .ok (.getfield 16, 3)) ∧ (decode cX11_mark 39 = .ok (.goto 7, 3)) ∧ (decode cX11_mark 42 = .ok (.aload_n 0, 1)) ∧ (decode cX11_mark 43 = .ok (.getfield 13, 3)) := by decide +kernel
def dX11_mark_22 := db_cX11_mark_dX11_mark_22_1.1
def dX11_mark_23 := db_cX11_mark_dX11_mark_22_1.2.1
def dX11_mark_26 := db_cX11_mark_dX11_mark_22_1.2.2.1
def dX11_mark_29 := db_cX11_mark_dX11_mark_22_1.2.2.2.1
def dX11_mark_30 := db_cX11_mark_dX11_mark_22_1.2.2.2.2.1
def dX11_mark_31 := db_cX11_mark_dX11_mark_22_1.2.2.2.2.2.1
def dX11_mark_32 := db_cX11_mark_dX11_mark_22_1.2.2.2.2.2.2.1
def dX11_mark_35 := db_cX11_mark_dX11_mark_22_1.2.2.2.2.2.2.2.1
def dX11_mark_36 := db_cX11_mark_dX11_mark_22_1.2.2.2.2.2.2.2.2.1
def dX11_mark_39 := db_cX11_mark_dX11_mark_22_1.2.2.2.2.2.2.2.2.2.1
def dX11_mark_42 := db_cX11_mark_dX11_mark_22_1.2.2.2.2.2.2.2.2.2.2.1
def dX11_mark_43 := db_cX11_mark_dX11_mark_22_1.2.2.2.2.2.2.2.2.2.2.2
set_option maxRecDepth 100000 in
theorem db_cX11_mark_dX11_mark_46_2 : (decode cX11_mark 46 = .ok (.astore 5, 2)) ∧ (decode cX11_mark 48 = .ok (.aload 5, 2)) ∧ (decode cX11_mark 50 = .ok (.iload_n 1, 1)) ∧ (decode cX11_mark 51 = .ok (.iaload, 1)) ∧ (decode cX11_mark 52 = .ok (.istore 6, 2)) ∧ (decode cX11_mark 54 = .ok (.aload 5, 2)) ∧ (decode cX11_mark 56 = .ok (.iload_n 1, 1)) ∧ (decode cX11_mark 57 = .ok (.iload 4, 2)) ∧ (decode cX11_mark 59 = .ok (.ifCond .eq 12, 3)) ∧ (decode cX11_mark 62 = .ok (.iload 6, 2)) ∧ (decode cX11_mark 64 = .ok (.iconst 1, 1)) ∧ (decode cX11_mark 65 = .ok (.iload_n 2, 1)) := by decide +kernel
def dX11_mark_46 := db_cX11_mark_dX11_mark_46_2.1
def dX11_mark_48 := db_cX11_mark_dX11_mark_46_2.2.1
def dX11_mark_50 := db_cX11_mark_dX11_mark_46_2.2.2.1
def dX11_mark_51 := db_cX11_mark_dX11_mark_46_2.2.2.2.1
def dX11_mark_52 := db_cX11_mark_dX11_mark_46_2.2.2.2.2.1
def dX11_mark_54 := db_cX11_mark_dX11_mark_46_2.2.2.2.2.2.1
def dX11_mark_56 := db_cX11_mark_dX11_mark_46_2.2.2.2.2.2.2.1
def dX11_mark_57 := db_cX11_mark_dX11_mark_46_2.2.2.2.2.2.2.2.1
def dX11_mark_59 := db_cX11_mark_dX11_mark_46_2.2.2.2.2.2.2.2.2.1
def dX11_mark_62 := db_cX11_mark_dX11_mark_46_2.2.2.2.2.2.2.2.2.2.1
def dX11_mark_64 := db_cX11_mark_dX11_mark_46_2.2.2.2.2.2.2.2.2.2.2.1
def dX11_mark_65 := db_cX11_mark_dX11_mark_46_2.2.2.2.2.2.2.2.2.2.2.2
set_option maxRecDepth 100000 in
theorem db_cX11_mark_dX11_mark_66_3 : (decode cX11_mark 66 = .ok (.ishl, 1)) ∧ (decode cX11_mark 67 = .ok (.ior, 1)) ∧ (decode cX11_mark 68 = .ok (.goto 11, 3)) ∧ (decode cX11_mark 71 = .ok (.iload 6, 2)) ∧ (decode cX11_mark 73 = .ok (.iconst 1, 1)) ∧ (decode cX11_mark 74 = .ok (.iload_n 2, 1)) ∧ (decode cX11_mark 75 = .ok (.ishl, 1)) ∧ (decode cX11_mark 76 = .ok (.iconst (-1), 1)) ∧ (decode cX11_mark 77 = .ok (.ixor, 1)) ∧ (decode cX11_mark 78 = .ok (.iand, 1)) ∧ (decode cX11_mark 79 = .ok (.iastore, 1)) ∧ (decode cX11_mark 80 = .ok (.aload_n 0, 1)) := by decide +kernel
def dX11_mark_66 := db_cX11_mark_dX11_mark_66_3.1
def dX11_mark_67 := db_cX11_mark_dX11_mark_66_3.2.1
def dX11_mark_68 := db_cX11_mark_dX11_mark_66_3.2.2.1
def dX11_mark_71 := db_cX11_mark_dX11_mark_66_3.2.2.2.1
def dX11_mark_73 := db_cX11_mark_dX11_mark_66_3.2.2.2.2.1
def dX11_mark_74 := db_cX11_mark_dX11_mark_66_3.2.2.2.2.2.1
def dX11_mark_75 := db_cX11_mark_dX11_mark_66_3.2.2.2.2.2.2.1
def dX11_mark_76 := db_cX11_mark_dX11_mark_66_3.2.2.2.2.2.2.2.1
def dX11_mark_77 := db_cX11_mark_dX11_mark_66_3.2.2.2.2.2.2.2.2.1
def dX11_mark_78 := db_cX11_mark_dX11_mark_66_3.2.2.2.2.2.2.2.2.2.1
def dX11_mark_79 := db_cX11_mark_dX11_mark_66_3.2.2.2.2.2.2.2.2.2.2.1
def dX11_mark_80 := db_cX11_mark_dX11_mark_66_3.2.2.2.2.2.2.2.2.2.2.2
set_option maxRecDepth 100000 in
theorem db_cX11_mark_dX11_mark_81_4 : (decode cX11_mark 81 = .ok (.iload 6, 2)) ∧ (decode cX11_mark 83 = .ok (.aload 5, 2)) ∧ (decode cX11_mark 85 = .ok (.iload_n 1, 1)) ∧ (decode cX11_mark 86 = .ok (.iaload, 1)) ∧ (decode cX11_mark 87 = .ok (.if_icmp .ne 7, 3)) ∧ (decode cX11_mark 90 = .ok (.iconst 0, 1)) ∧ (decode cX11_mark 91 = .ok (.goto 4, 3)) ∧ (decode cX11_mark 94 = .ok (.iconst 1, 1)) ∧ (decode cX11_mark 95 = .ok (.invokevirtual 108, 3)) ∧ (decode cX11_mark 98 = .ok (.ireturn, 1)) := by decide +kernel
def dX11_mark_81 := db_cX11_mark_dX11_mark_81_4.1
def dX11_mark_83 := db_cX11_mark_dX11_mark_81_4.2.1
def dX11_mark_85 := db_cX11_mark_dX11_mark_81_4.2.2.1
def dX11_mark_86 := db_cX11_mark_dX11_mark_81_4.2.2.2.1
def dX11_mark_87 := db_cX11_mark_dX11_mark_81_4.2.2.2.2.1
def dX11_mark_90 := db_cX11_mark_dX11_mark_81_4.2.2.2.2.2.1
def dX11_mark_91 := db_cX11_mark_dX11_mark_81_4.2.2.2.2.2.2.1
def dX11_mark_94 := db_cX11_mark_dX11_mark_81_4.2.2.2.2.2.2.2.1
def dX11_mark_95 := db_cX11_mark_dX11_mark_81_4.2.2.2.2.2.2.2.2.1
def dX11_mark_98 := db_cX11_mark_dX11_mark_81_4.2.2.2.2.2.2.2.2.2
set_option maxRecDepth 100000 in
theorem db_cX11_sow_dX11_sow_0_0 : (decode cX11_sow 0 = .ok (.aload_n 0, 1)) ∧ (decode cX11_sow 1 = .ok (.iload_n 1, 1)) ∧ (decode cX11_sow 2 = .ok (.invokestatic 93, 3)) ∧ (decode cX11_sow 5 = .ok (.iload_n 2, 1)) ∧ (decode cX11_sow 6 = .ok (.iconst 0, 1)) ∧ (decode cX11_sow 7 = .ok (.ldc 119, 2)) ∧ (decode cX11_sow 9 = .ok (.invokestatic 26, 3)) ∧ (decode cX11_sow 12 = .ok (.ifCond .eq 28, 3)) ∧ (decode cX11_sow 15 = .ok (.iload_n 3, 1)) ∧ (decode cX11_sow 16 = .ok (.iconst 1, 1)) ∧ (decode cX11_sow 17 = .ok (.bipush 7, 2)) ∧ (decode cX11_sow 19 = .ok (.invokestatic 26, 3)) := by decide +kernel
def dX11_sow_0 := db_cX11_sow_dX11_sow_0_0.1
def dX11_sow_1 := db_cX11_sow_dX11_sow_0_0.2.1
def dX11_sow_2 := db_cX11_sow_dX11_sow_0_0.2.2.1
def dX11_sow_5 := db_cX11_sow_dX11_sow_0_0.2.2.2.1
def dX11_sow_6 := db_cX11_sow_dX11_sow_0_0.2.2.2.2.1
def dX11_sow_7 := db_cX11_sow_dX11_sow_0_0.2.2.2.2.2.1
def dX11_sow_9 := db_cX11_sow_dX11_sow_0_0.2.2.2.2.2.2.1
def dX11_sow_12 := db_cX11_sow_dX11_sow_0_0.2.2.2.2.2.2.2.1
def dX11_sow_15 := db_cX11_sow_dX11_sow_0_0.2.2.2.2.2.2.2.2.1
def dX11_sow_16 := db_cX11_sow_dX11_sow_0_0.2.2.2.2.2.2.2.2.2.1
def dX11_sow_17 := db_cX11_sow_dX11_sow_0_0.2.2.2.2.2.2.2.2.2.2.1
def dX11_sow_19 := db_cX11_sow_dX11_sow_0_0.2.2.2.2.2.2.2.2.2.2.2
set_option maxRecDepth 100000 in
theorem db_cX11_sow_dX11_sow_22_1 : (decode cX11_sow 22 = .ok (.ifCond .eq 18, 3)) ∧ (decode cX11_sow 25 = .ok (.iload 4, 2)) ∧ (decode cX11_sow 27 = .ok (.iconst 0, 1)) ∧ (decode cX11_sow 28 = .ok (.bipush 6, 2)) ∧ (decode cX11_sow 30 = .ok (.invokestatic 26, 3)) ∧ (decode cX11_sow 33 = .ok (.ifCond .eq 7, 3)) ∧ (decode cX11_sow 36 = .ok (.iconst 1, 1)) ∧ (decode cX11_sow 37 = .ok (.goto 4, 3)) ∧ (decode cX11_sow 40 = .ok (.iconst 0, 1)) ∧ (decode cX11_sow 41 = .ok (.invokevirtual 97, 3)) ∧ (decode cX11_sow 44 = .ok (.ifCond .eq 5, 3)) ∧ (decode cX11_sow 47 = .ok (.iconst 0, 1)) := by decide +kernel
def dX11_sow_22 := db_cX11_sow_dX11_sow_22_1.1
def dX11_sow_25 := db_cX11_sow_dX11_sow_22_1.2.1
def dX11_sow_27 := db_cX11_sow_dX11_sow_22_1.2.2.1
def dX11_sow_28 := db_cX11_sow_dX11_sow_22_1.2.2.2.1
def dX11_sow_30 := db_cX11_sow_dX11_sow_22_1.2.2.2.2.1
def dX11_sow_33 := db_cX11_sow_dX11_sow_22_1.2.2.2.2.2.1
def dX11_sow_36 := db_cX11_sow_dX11_sow_22_1.2.2.2.2.2.2.1
def dX11_sow_37 := db_cX11_sow_dX11_sow_22_1.2.2.2.2.2.2.2.1
def dX11_sow_40 := db_cX11_sow_dX11_sow_22_1.2.2.2.2.2.2.2.2.1
def dX11_sow_41 := db_cX11_sow_dX11_sow_22_1.2.2.2.2.2.2.2.2.2.1
def dX11_sow_44 := db_cX11_sow_dX11_sow_22_1.2.2.2.2.2.2.2.2.2.2.1
def dX11_sow_47 := db_cX11_sow_dX11_sow_22_1.2.2.2.2.2.2.2.2.2.2.2
set_option maxRecDepth 100000 in
theorem db_cX11_sow_dX11_sow_48_2 : (decode cX11_sow 48 = .ok (.ireturn, 1)) ∧ (decode cX11_sow 49 = .ok (.aload_n 0, 1)) ∧ (decode cX11_sow 50 = .ok (.iload_n 1, 1)) ∧ (decode cX11_sow 51 = .ok (.iload_n 3, 1)) ∧ (decode cX11_sow 52 = .ok (.invokevirtual 104, 3)) ∧ (decode cX11_sow 55 = .ok (.iload_n 2, 1)) ∧ (decode cX11_sow 56 = .ok (.istore 5, 2)) ∧ (decode cX11_sow 58 = .ok (.iconst 0, 1)) ∧ (decode cX11_sow 59 = .ok (.istore 6, 2)) ∧ (decode cX11_sow 61 = .ok (.iload 6, 2)) ∧ (decode cX11_sow 63 = .ok (.iload_n 3, 1)) ∧ (decode cX11_sow 64 = .ok (.if_icmp .ge 126, 3)) := by decide +kernel
def dX11_sow_48 := db_cX11_sow_dX11_sow_48_2.1
def dX11_sow_49 := db_cX11_sow_dX11_sow_48_2.2.1
def dX11_sow_50 := db_cX11_sow_dX11_sow_48_2.2.2.1
def dX11_sow_51 := db_cX11_sow_dX11_sow_48_2.2.2.2.1
def dX11_sow_52 := db_cX11_sow_dX11_sow_48_2.2.2.2.2.1
def dX11_sow_55 := db_cX11_sow_dX11_sow_48_2.2.2.2.2.2.1
def dX11_sow_56 := db_cX11_sow_dX11_sow_48_2.2.2.2.2.2.2.1
def dX11_sow_58 := db_cX11_sow_dX11_sow_48_2.2.2.2.2.2.2.2.1
def dX11_sow_59 := db_cX11_sow_dX11_sow_48_2.2.2.2.2.2.2.2.2.1
def dX11_sow_61 := db_cX11_sow_dX11_sow_48_2.2.2.2.2.2.2.2.2.2.1
def dX11_sow_63 := db_cX11_sow_dX11_sow_48_2.2.2.2.2.2.2.2.2.2.2.1
def dX11_sow_64 := db_cX11_sow_dX11_sow_48_2.2.2.2.2.2.2.2.2.2.2.2
set_option maxRecDepth 100000 in
theorem db_cX11_sow_dX11_sow_67_3 : (decode cX11_sow 67 = .ok (.iconst 0, 1)) ∧ (decode cX11_sow 68 = .ok (.istore 7, 2)) ∧ (decode cX11_sow 70 = .ok (.iload 7, 2)) ∧ (decode cX11_sow 72 = .ok (.iconst 3, 1)) ∧ (decode cX11_sow 73 = .ok (.if_icmp .ge 111, 3)) ∧ (decode cX11_sow 76 = .ok (.iconst 0, 1)) ∧ (decode cX11_sow 77 = .ok (.istore 8, 2)) ∧ (decode cX11_sow 79 = .ok (.iload 8, 2)) ∧ (decode cX11_sow 81 = .ok (.iload 4, 2)) ∧ (decode cX11_sow 83 = .ok (.ifCond .ne 7, 3)) ∧ (decode cX11_sow 86 = .ok (.iconst 1, 1)) ∧ (decode cX11_sow 87 = .ok (.goto 4, 3)) := by decide +kernel
def dX11_sow_67 := db_cX11_sow_dX11_sow_67_3.1
def dX11_sow_68 := db_cX11_sow_dX11_sow_67_3.2.1
def dX11_sow_70 := db_cX11_sow_dX11_sow_67_3.2.2.1
def dX11_sow_72 := db_cX11_sow_dX11_sow_67_3.2.2.2.1
def dX11_sow_73 := db_cX11_sow_dX11_sow_67_3.2.2.2.2.1
def dX11_sow_76 := db_cX11_sow_dX11_sow_67_3.2.2.2.2.2.1
def dX11_sow_77 := db_cX11_sow_dX11_sow_67_3.2.2.2.2.2.2.1
def dX11_sow_79 := db_cX11_sow_dX11_sow_67_3.2.2.2.2.2.2.2.1
def dX11_sow_81 := db_cX11_sow_dX11_sow_67_3.2.2.2.2.2.2.2.2.1
def dX11_sow_83 := db_cX11_sow_dX11_sow_67_3.2.2.2.2.2.2.2.2.2.1
def dX11_sow_86 := db_cX11_sow_dX11_sow_67_3.2.2.2.2.2.2.2.2.2.2.1
def dX11_sow_87 := db_cX11_sow_dX11_sow_67_3.2.2.2.2.2.2.2.2.2.2.2
set_option maxRecDepth 100000 in
theorem db_cX11_sow_dX11_sow_90_4 : (decode cX11_sow 90 = .ok (.iload_n 3, 1)) ∧ (decode cX11_sow 91 = .ok (.if_icmp .ge 87, 3)) ∧ (decode cX11_sow 94 = .ok (.iload 5, 2)) ∧ (decode cX11_sow 96 = .ok (.sipush 25173, 3)) ∧ (decode cX11_sow 99 = .ok (.imul, 1)) ∧ (decode cX11_sow 100 = .ok (.sipush 13849, 3)) ∧ (decode cX11_sow 103 = .ok (.iadd, 1)) ∧ (decode cX11_sow 104 = .ok (.ldc 120, 2)) ∧ (decode cX11_sow 106 = .ok (.irem, 1)) ∧ (decode cX11_sow 107 = .ok (.istore 5, 2)) ∧ (decode cX11_sow 109 = .ok (.iload 4, 2)) ∧ (decode cX11_sow 111 = .ok (.ifCond .ne 28, 3)) := by decide +kernel
def dX11_sow_90 := db_cX11_sow_dX11_sow_90_4.1
def dX11_sow_91 := db_cX11_sow_dX11_sow_90_4.2.1
def dX11_sow_94 := db_cX11_sow_dX11_sow_90_4.2.2.1
def dX11_sow_96 := db_cX11_sow_dX11_sow_90_4.2.2.2.1
def dX11_sow_99 := db_cX11_sow_dX11_sow_90_4.2.2.2.2.1
def dX11_sow_100 := db_cX11_sow_dX11_sow_90_4.2.2.2.2.2.1
def dX11_sow_103 := db_cX11_sow_dX11_sow_90_4.2.2.2.2.2.2.1
def dX11_sow_104 := db_cX11_sow_dX11_sow_90_4.2.2.2.2.2.2.2.1
def dX11_sow_106 := db_cX11_sow_dX11_sow_90_4.2.2.2.2.2.2.2.2.1
def dX11_sow_107 := db_cX11_sow_dX11_sow_90_4.2.2.2.2.2.2.2.2.2.1
def dX11_sow_109 := db_cX11_sow_dX11_sow_90_4.2.2.2.2.2.2.2.2.2.2.1
def dX11_sow_111 := db_cX11_sow_dX11_sow_90_4.2.2.2.2.2.2.2.2.2.2.2
set_option maxRecDepth 100000 in
theorem db_cX11_sow_dX11_sow_114_5 : (decode cX11_sow 114 = .ok (.aload_n 0, 1)) ∧ (decode cX11_sow 115 = .ok (.getfield 19, 3)) ∧ (decode cX11_sow 118 = .ok (.iload_n 1, 1)) ∧ (decode cX11_sow 119 = .ok (.iload 6, 2)) ∧ (decode cX11_sow 121 = .ok (.iload 7, 2)) ∧ (decode cX11_sow 123 = .ok (.invokestatic 36, 3)) ∧ (decode cX11_sow 126 = .ok (.iconst 1, 1)) ∧ (decode cX11_sow 127 = .ok (.iload 5, 2)) ∧ (decode cX11_sow 129 = .ok (.bipush 64, 2)) ∧ (decode cX11_sow 131 = .ok (.idiv, 1)) ∧ (decode cX11_sow 132 = .ok (.iload_n 3, 1)) ∧ (decode cX11_sow 133 = .ok (.irem, 1)) := by decide +kernel
def dX11_sow_114 := db_cX11_sow_dX11_sow_114_5.1
def dX11_sow_115 := db_cX11_sow_dX11_sow_114_5.2.1
def dX11_sow_118 := db_cX11_sow_dX11_sow_114_5.2.2.1
def dX11_sow_119 := db_cX11_sow_dX11_sow_114_5.2.2.2.1
def dX11_sow_121 := db_cX11_sow_dX11_sow_114_5.2.2.2.2.1
def dX11_sow_123 := db_cX11_sow_dX11_sow_114_5.2.2.2.2.2.1
def dX11_sow_126 := db_cX11_sow_dX11_sow_114_5.2.2.2.2.2.2.1
def dX11_sow_127 := db_cX11_sow_dX11_sow_114_5.2.2.2.2.2.2.2.1
def dX11_sow_129 := db_cX11_sow_dX11_sow_114_5.2.2.2.2.2.2.2.2.1
def dX11_sow_131 := db_cX11_sow_dX11_sow_114_5.2.2.2.2.2.2.2.2.2.1
def dX11_sow_132 := db_cX11_sow_dX11_sow_114_5.2.2.2.2.2.2.2.2.2.2.1
def dX11_sow_133 := db_cX11_sow_dX11_sow_114_5.2.2.2.2.2.2.2.2.2.2.2
set_option maxRecDepth 100000 in
theorem db_cX11_sow_dX11_sow_134_6 : (decode cX11_sow 134 = .ok (.ishl, 1)) ∧ (decode cX11_sow 135 = .ok (.iastore, 1)) ∧ (decode cX11_sow 136 = .ok (.goto 36, 3)) ∧ (decode cX11_sow 139 = .ok (.iload 5, 2)) ∧ (decode cX11_sow 141 = .ok (.bipush 64, 2)) ∧ (decode cX11_sow 143 = .ok (.idiv, 1)) ∧ (decode cX11_sow 144 = .ok (.iload 4, 2)) ∧ (decode cX11_sow 146 = .ok (.iconst 1, 1)) ∧ (decode cX11_sow 147 = .ok (.iadd, 1)) ∧ (decode cX11_sow 148 = .ok (.irem, 1)) ∧ (decode cX11_sow 149 = .ok (.ifCond .ne 23, 3)) ∧ (decode cX11_sow 152 = .ok (.aload_n 0, 1)) := by decide +kernel
def dX11_sow_134 := db_cX11_sow_dX11_sow_134_6.1
def dX11_sow_135 := db_cX11_sow_dX11_sow_134_6.2.1
def dX11_sow_136 := db_cX11_sow_dX11_sow_134_6.2.2.1
def dX11_sow_139 := db_cX11_sow_dX11_sow_134_6.2.2.2.1
def dX11_sow_141 := db_cX11_sow_dX11_sow_134_6.2.2.2.2.1
def dX11_sow_143 := db_cX11_sow_dX11_sow_134_6.2.2.2.2.2.1
def dX11_sow_144 := db_cX11_sow_dX11_sow_134_6.2.2.2.2.2.2.1
def dX11_sow_146 := db_cX11_sow_dX11_sow_134_6.2.2.2.2.2.2.2.1
def dX11_sow_147 := db_cX11_sow_dX11_sow_134_6.2.2.2.2.2.2.2.2.1
def dX11_sow_148 := db_cX11_sow_dX11_sow_134_6.2.2.2.2.2.2.2.2.2.1
def dX11_sow_149 := db_cX11_sow_dX11_sow_134_6.2.2.2.2.2.2.2.2.2.2.1
def dX11_sow_152 := db_cX11_sow_dX11_sow_134_6.2.2.2.2.2.2.2.2.2.2.2
set_option maxRecDepth 100000 in
theorem db_cX11_sow_dX11_sow_153_7 : (decode cX11_sow 153 = .ok (.getfield 19, 3)) ∧ (decode cX11_sow 156 = .ok (.iload_n 1, 1)) ∧ (decode cX11_sow 157 = .ok (.iload 6, 2)) ∧ (decode cX11_sow 159 = .ok (.iload 7, 2)) ∧ (decode cX11_sow 161 = .ok (.invokestatic 36, 3)) ∧ (decode cX11_sow 164 = .ok (.dup2, 1)) ∧ (decode cX11_sow 165 = .ok (.iaload, 1)) ∧ (decode cX11_sow 166 = .ok (.iconst 1, 1)) ∧ (decode cX11_sow 167 = .ok (.iload 8, 2)) ∧ (decode cX11_sow 169 = .ok (.ishl, 1)) ∧ (decode cX11_sow 170 = .ok (.ior, 1)) ∧ (decode cX11_sow 171 = .ok (.iastore, 1)) := by decide +kernel
def dX11_sow_153 := db_cX11_sow_dX11_sow_153_7.1
def dX11_sow_156 := db_cX11_sow_dX11_sow_153_7.2.1
def dX11_sow_157 := db_cX11_sow_dX11_sow_153_7.2.2.1
def dX11_sow_159 := db_cX11_sow_dX11_sow_153_7.2.2.2.1
def dX11_sow_161 := db_cX11_sow_dX11_sow_153_7.2.2.2.2.1
def dX11_sow_164 := db_cX11_sow_dX11_sow_153_7.2.2.2.2.2.1
def dX11_sow_165 := db_cX11_sow_dX11_sow_153_7.2.2.2.2.2.2.1
def dX11_sow_166 := db_cX11_sow_dX11_sow_153_7.2.2.2.2.2.2.2.1
def dX11_sow_167 := db_cX11_sow_dX11_sow_153_7.2.2.2.2.2.2.2.2.1
def dX11_sow_169 := db_cX11_sow_dX11_sow_153_7.2.2.2.2.2.2.2.2.2.1
def dX11_sow_170 := db_cX11_sow_dX11_sow_153_7.2.2.2.2.2.2.2.2.2.2.1
def dX11_sow_171 := db_cX11_sow_dX11_sow_153_7.2.2.2.2.2.2.2.2.2.2.2
set_option maxRecDepth 100000 in
theorem db_cX11_sow_dX11_sow_172_8 : (decode cX11_sow 172 = .ok (.iinc 8 1, 3)) ∧ (decode cX11_sow 175 = .ok (.goto (-96), 3)) ∧ (decode cX11_sow 178 = .ok (.iinc 7 1, 3)) ∧ (decode cX11_sow 181 = .ok (.goto (-111), 3)) ∧ (decode cX11_sow 184 = .ok (.iinc 6 1, 3)) ∧ (decode cX11_sow 187 = .ok (.goto (-126), 3)) ∧ (decode cX11_sow 190 = .ok (.iconst 0, 1)) ∧ (decode cX11_sow 191 = .ok (.istore 6, 2)) ∧ (decode cX11_sow 193 = .ok (.iload 6, 2)) ∧ (decode cX11_sow 195 = .ok (.iload_n 3, 1)) ∧ (decode cX11_sow 196 = .ok (.if_icmp .ge 47, 3)) ∧ (decode cX11_sow 199 = .ok (.iload 5, 2)) := by decide +kernel
def dX11_sow_172 := db_cX11_sow_dX11_sow_172_8.1
def dX11_sow_175 := db_cX11_sow_dX11_sow_172_8.2.1
def dX11_sow_178 := db_cX11_sow_dX11_sow_172_8.2.2.1
def dX11_sow_181 := db_cX11_sow_dX11_sow_172_8.2.2.2.1
def dX11_sow_184 := db_cX11_sow_dX11_sow_172_8.2.2.2.2.1
def dX11_sow_187 := db_cX11_sow_dX11_sow_172_8.2.2.2.2.2.1
def dX11_sow_190 := db_cX11_sow_dX11_sow_172_8.2.2.2.2.2.2.1
def dX11_sow_191 := db_cX11_sow_dX11_sow_172_8.2.2.2.2.2.2.2.1
def dX11_sow_193 := db_cX11_sow_dX11_sow_172_8.2.2.2.2.2.2.2.2.1
def dX11_sow_195 := db_cX11_sow_dX11_sow_172_8.2.2.2.2.2.2.2.2.2.1
def dX11_sow_196 := db_cX11_sow_dX11_sow_172_8.2.2.2.2.2.2.2.2.2.2.1
def dX11_sow_199 := db_cX11_sow_dX11_sow_172_8.2.2.2.2.2.2.2.2.2.2.2
set_option maxRecDepth 100000 in
theorem db_cX11_sow_dX11_sow_201_9 : (decode cX11_sow 201 = .ok (.sipush 25173, 3)) ∧ (decode cX11_sow 204 = .ok (.imul, 1)) ∧ (decode cX11_sow 205 = .ok (.sipush 13849, 3)) ∧ (decode cX11_sow 208 = .ok (.iadd, 1)) ∧ (decode cX11_sow 209 = .ok (.ldc 120, 2)) ∧ (decode cX11_sow 211 = .ok (.irem, 1)) ∧ (decode cX11_sow 212 = .ok (.istore 5, 2)) ∧ (decode cX11_sow 214 = .ok (.iload 5, 2)) ∧ (decode cX11_sow 216 = .ok (.bipush 64, 2)) ∧ (decode cX11_sow 218 = .ok (.idiv, 1)) ∧ (decode cX11_sow 219 = .ok (.iconst 2, 1)) ∧ (decode cX11_sow 220 = .ok (.irem, 1)) := by decide +kernel
def dX11_sow_201 := db_cX11_sow_dX11_sow_201_9.1
def dX11_sow_204 := db_cX11_sow_dX11_sow_201_9.2.1
def dX11_sow_205 := db_cX11_sow_dX11_sow_201_9.2.2.1
def dX11_sow_208 := db_cX11_sow_dX11_sow_201_9.2.2.2.1
def dX11_sow_209 := db_cX11_sow_dX11_sow_201_9.2.2.2.2.1
def dX11_sow_211 := db_cX11_sow_dX11_sow_201_9.2.2.2.2.2.1
def dX11_sow_212 := db_cX11_sow_dX11_sow_201_9.2.2.2.2.2.2.1
def dX11_sow_214 := db_cX11_sow_dX11_sow_201_9.2.2.2.2.2.2.2.1
def dX11_sow_216 := db_cX11_sow_dX11_sow_201_9.2.2.2.2.2.2.2.2.1
def dX11_sow_218 := db_cX11_sow_dX11_sow_201_9.2.2.2.2.2.2.2.2.2.1
def dX11_sow_219 := db_cX11_sow_dX11_sow_201_9.2.2.2.2.2.2.2.2.2.2.1
def dX11_sow_220 := db_cX11_sow_dX11_sow_201_9.2.2.2.2.2.2.2.2.2.2.2
set_option maxRecDepth 100000 in
theorem db_cX11_sow_dX11_sow_221_10 : (decode cX11_sow 221 = .ok (.ifCond .ne 16, 3)) ∧ (decode cX11_sow 224 = .ok (.aload_n 0, 1)) ∧ (decode cX11_sow 225 = .ok (.getfield 16, 3)) ∧ (decode cX11_sow 228 = .ok (.iload_n 1, 1)) ∧ (decode cX11_sow 229 = .ok (.dup2, 1)) ∧ (decode cX11_sow 230 = .ok (.iaload, 1)) ∧ (decode cX11_sow 231 = .ok (.iconst 1, 1)) ∧ (decode cX11_sow 232 = .ok (.iload 6, 2)) ∧ (decode cX11_sow 234 = .ok (.ishl, 1)) ∧ (decode cX11_sow 235 = .ok (.ior, 1)) ∧ (decode cX11_sow 236 = .ok (.iastore, 1)) ∧ (decode cX11_sow 237 = .ok (.iinc 6 1, 3)) := by decide +kernel
def dX11_sow_221 := db_cX11_sow_dX11_sow_221_10.1
def dX11_sow_224 := db_cX11_sow_dX11_sow_221_10.2.1
def dX11_sow_225 := db_cX11_sow_dX11_sow_221_10.2.2.1
def dX11_sow_228 := db_cX11_sow_dX11_sow_221_10.2.2.2.1
def dX11_sow_229 := db_cX11_sow_dX11_sow_221_10.2.2.2.2.1
def dX11_sow_230 := db_cX11_sow_dX11_sow_221_10.2.2.2.2.2.1
def dX11_sow_231 := db_cX11_sow_dX11_sow_221_10.2.2.2.2.2.2.1
def dX11_sow_232 := db_cX11_sow_dX11_sow_221_10.2.2.2.2.2.2.2.1
def dX11_sow_234 := db_cX11_sow_dX11_sow_221_10.2.2.2.2.2.2.2.2.1
def dX11_sow_235 := db_cX11_sow_dX11_sow_221_10.2.2.2.2.2.2.2.2.2.1
def dX11_sow_236 := db_cX11_sow_dX11_sow_221_10.2.2.2.2.2.2.2.2.2.2.1
def dX11_sow_237 := db_cX11_sow_dX11_sow_221_10.2.2.2.2.2.2.2.2.2.2.2
set_option maxRecDepth 100000 in
theorem db_cX11_sow_dX11_sow_240_11 : (decode cX11_sow 240 = .ok (.goto (-47), 3)) ∧ (decode cX11_sow 243 = .ok (.aload_n 0, 1)) ∧ (decode cX11_sow 244 = .ok (.aload_n 0, 1)) ∧ (decode cX11_sow 245 = .ok (.iload_n 1, 1)) ∧ (decode cX11_sow 246 = .ok (.invokevirtual 101, 3)) ∧ (decode cX11_sow 249 = .ok (.invokevirtual 108, 3)) ∧ (decode cX11_sow 252 = .ok (.ireturn, 1)) := by decide +kernel
def dX11_sow_240 := db_cX11_sow_dX11_sow_240_11.1
def dX11_sow_243 := db_cX11_sow_dX11_sow_240_11.2.1
def dX11_sow_244 := db_cX11_sow_dX11_sow_240_11.2.2.1
def dX11_sow_245 := db_cX11_sow_dX11_sow_240_11.2.2.2.1
def dX11_sow_246 := db_cX11_sow_dX11_sow_240_11.2.2.2.2.1
def dX11_sow_249 := db_cX11_sow_dX11_sow_240_11.2.2.2.2.2.1
def dX11_sow_252 := db_cX11_sow_dX11_sow_240_11.2.2.2.2.2.2
set_option maxRecDepth 100000 in
theorem db_cX11_isSame_dX11_isSame_0_0 : (decode cX11_isSame 0 = .ok (.aload_n 0, 1)) ∧ (decode cX11_isSame 1 = .ok (.getfield 7, 3)) ∧ (decode cX11_isSame 4 = .ok (.iload_n 1, 1)) ∧ (decode cX11_isSame 5 = .ok (.iaload, 1)) ∧ (decode cX11_isSame 6 = .ok (.aload_n 0, 1)) ∧ (decode cX11_isSame 7 = .ok (.getfield 7, 3)) ∧ (decode cX11_isSame 10 = .ok (.iload_n 2, 1)) ∧ (decode cX11_isSame 11 = .ok (.iaload, 1)) ∧ (decode cX11_isSame 12 = .ok (.if_icmp .ne 37, 3)) ∧ (decode cX11_isSame 15 = .ok (.aload_n 0, 1)) ∧ (decode cX11_isSame 16 = .ok (.getfield 13, 3)) ∧ (decode cX11_isSame 19 = .ok (.iload_n 1, 1)) := by decide +kernel
def dX11_isSame_0 := db_cX11_isSame_dX11_isSame_0_0.1
def dX11_isSame_1 := db_cX11_isSame_dX11_isSame_0_0.2.1
def dX11_isSame_4 := db_cX11_isSame_dX11_isSame_0_0.2.2.1
def dX11_isSame_5 := db_cX11_isSame_dX11_isSame_0_0.2.2.2.1
def dX11_isSame_6 := db_cX11_isSame_dX11_isSame_0_0.2.2.2.2.1
def dX11_isSame_7 := db_cX11_isSame_dX11_isSame_0_0.2.2.2.2.2.1
def dX11_isSame_10 := db_cX11_isSame_dX11_isSame_0_0.2.2.2.2.2.2.1
def dX11_isSame_11 := db_cX11_isSame_dX11_isSame_0_0.2.2.2.2.2.2.2.1
def dX11_isSame_12 := db_cX11_isSame_dX11_isSame_0_0.2.2.2.2.2.2.2.2.1
def dX11_isSame_15 := db_cX11_isSame_dX11_isSame_0_0.2.2.2.2.2.2.2.2.2.1
def dX11_isSame_16 := db_cX11_isSame_dX11_isSame_0_0.2.2.2.2.2.2.2.2.2.2.1
def dX11_isSame_19 := db_cX11_isSame_dX11_isSame_0_0.2.2.2.2.2.2.2.2.2.2.2
set_option maxRecDepth 100000 in
theorem db_cX11_isSame_dX11_isSame_20_1 : (decode cX11_isSame 20 = .ok (.iaload, 1)) ∧ (decode cX11_isSame 21 = .ok (.aload_n 0, 1)) ∧ (decode cX11_isSame 22 = .ok (.getfield 13, 3)) ∧ (decode cX11_isSame 25 = .ok (.iload_n 2, 1)) ∧ (decode cX11_isSame 26 = .ok (.iaload, 1)) ∧ (decode cX11_isSame 27 = .ok (.if_icmp .ne 22, 3)) ∧ (decode cX11_isSame 30 = .ok (.aload_n 0, 1)) ∧ (decode cX11_isSame 31 = .ok (.getfield 16, 3)) ∧ (decode cX11_isSame 34 = .ok (.iload_n 1, 1)) ∧ (decode cX11_isSame 35 = .ok (.iaload, 1)) ∧ (decode cX11_isSame 36 = .ok (.aload_n 0, 1)) ∧ (decode cX11_isSame 37 = .ok (.getfield 16, 3)) := by decide +kernel
def dX11_isSame_20 := db_cX11_isSame_dX11_isSame_20_1.1
def dX11_isSame_21 := db_cX11_isSame_dX11_isSame_20_1.2.1
def dX11_isSame_22 := db_cX11_isSame_dX11_isSame_20_1.2.2.1
def dX11_isSame_25 := db_cX11_isSame_dX11_isSame_20_1.2.2.2.1
def dX11_isSame_26 := db_cX11_isSame_dX11_isSame_20_1.2.2.2.2.1
def dX11_isSame_27 := db_cX11_isSame_dX11_isSame_20_1.2.2.2.2.2.1
def dX11_isSame_30 := db_cX11_isSame_dX11_isSame_20_1.2.2.2.2.2.2.1
def dX11_isSame_31 := db_cX11_isSame_dX11_isSame_20_1.2.2.2.2.2.2.2.1
def dX11_isSame_34 := db_cX11_isSame_dX11_isSame_20_1.2.2.2.2.2.2.2.2.1
def dX11_isSame_35 := db_cX11_isSame_dX11_isSame_20_1.2.2.2.2.2.2.2.2.2.1
def dX11_isSame_36 := db_cX11_isSame_dX11_isSame_20_1.2.2.2.2.2.2.2.2.2.2.1
def dX11_isSame_37 := db_cX11_isSame_dX11_isSame_20_1.2.2.2.2.2.2.2.2.2.2.2
set_option maxRecDepth 100000 in
theorem db_cX11_isSame_dX11_isSame_40_2 : (decode cX11_isSame 40 = .ok (.iload_n 2, 1)) ∧ (decode cX11_isSame 41 = .ok (.iaload, 1)) ∧ (decode cX11_isSame 42 = .ok (.if_icmp .ne 7, 3)) ∧ (decode cX11_isSame 45 = .ok (.iconst 1, 1)) ∧ (decode cX11_isSame 46 = .ok (.goto 4, 3)) ∧ (decode cX11_isSame 49 = .ok (.iconst 0, 1)) ∧ (decode cX11_isSame 50 = .ok (.istore_n 3, 1)) ∧ (decode cX11_isSame 51 = .ok (.iconst 0, 1)) ∧ (decode cX11_isSame 52 = .ok (.istore 4, 2)) ∧ (decode cX11_isSame 54 = .ok (.iload 4, 2)) ∧ (decode cX11_isSame 56 = .ok (.bipush 21, 2)) ∧ (decode cX11_isSame 58 = .ok (.if_icmp .ge 48, 3)) := by decide +kernel
def dX11_isSame_40 := db_cX11_isSame_dX11_isSame_40_2.1
def dX11_isSame_41 := db_cX11_isSame_dX11_isSame_40_2.2.1
def dX11_isSame_42 := db_cX11_isSame_dX11_isSame_40_2.2.2.1
def dX11_isSame_45 := db_cX11_isSame_dX11_isSame_40_2.2.2.2.1
def dX11_isSame_46 := db_cX11_isSame_dX11_isSame_40_2.2.2.2.2.1
def dX11_isSame_49 := db_cX11_isSame_dX11_isSame_40_2.2.2.2.2.2.1
def dX11_isSame_50 := db_cX11_isSame_dX11_isSame_40_2.2.2.2.2.2.2.1
def dX11_isSame_51 := db_cX11_isSame_dX11_isSame_40_2.2.2.2.2.2.2.2.1
def dX11_isSame_52 := db_cX11_isSame_dX11_isSame_40_2.2.2.2.2.2.2.2.2.1
def dX11_isSame_54 := db_cX11_isSame_dX11_isSame_40_2.2.2.2.2.2.2.2.2.2.1
def dX11_isSame_56 := db_cX11_isSame_dX11_isSame_40_2.2.2.2.2.2.2.2.2.2.2.1
def dX11_isSame_58 := db_cX11_isSame_dX11_isSame_40_2.2.2.2.2.2.2.2.2.2.2.2
set_option maxRecDepth 100000 in
theorem db_cX11_isSame_dX11_isSame_61_3 : (decode cX11_isSame 61 = .ok (.iload_n 3, 1)) ∧ (decode cX11_isSame 62 = .ok (.aload_n 0, 1)) ∧ (decode cX11_isSame 63 = .ok (.getfield 19, 3)) ∧ (decode cX11_isSame 66 = .ok (.iload_n 1, 1)) ∧ (decode cX11_isSame 67 = .ok (.iconst 0, 1)) ∧ (decode cX11_isSame 68 = .ok (.iconst 0, 1)) ∧ (decode cX11_isSame 69 = .ok (.invokestatic 36, 3)) ∧ (decode cX11_isSame 72 = .ok (.iload 4, 2)) ∧ (decode cX11_isSame 74 = .ok (.iadd, 1)) ∧ (decode cX11_isSame 75 = .ok (.iaload, 1)) ∧ (decode cX11_isSame 76 = .ok (.aload_n 0, 1)) ∧ (decode cX11_isSame 77 = .ok (.getfield 19, 3)) := by decide +kernel
def dX11_isSame_61 := db_cX11_isSame_dX11_isSame_61_3.1
def dX11_isSame_62 := db_cX11_isSame_dX11_isSame_61_3.2.1
def dX11_isSame_63 := db_cX11_isSame_dX11_isSame_61_3.2.2.1
def dX11_isSame_66 := db_cX11_isSame_dX11_isSame_61_3.2.2.2.1
def dX11_isSame_67 := db_cX11_isSame_dX11_isSame_61_3.2.2.2.2.1
def dX11_isSame_68 := db_cX11_isSame_dX11_isSame_61_3.2.2.2.2.2.1
def dX11_isSame_69 := db_cX11_isSame_dX11_isSame_61_3.2.2.2.2.2.2.1
def dX11_isSame_72 := db_cX11_isSame_dX11_isSame_61_3.2.2.2.2.2.2.2.1
def dX11_isSame_74 := db_cX11_isSame_dX11_isSame_61_3.2.2.2.2.2.2.2.2.1
def dX11_isSame_75 := db_cX11_isSame_dX11_isSame_61_3.2.2.2.2.2.2.2.2.2.1
def dX11_isSame_76 := db_cX11_isSame_dX11_isSame_61_3.2.2.2.2.2.2.2.2.2.2.1
def dX11_isSame_77 := db_cX11_isSame_dX11_isSame_61_3.2.2.2.2.2.2.2.2.2.2.2
set_option maxRecDepth 100000 in
theorem db_cX11_isSame_dX11_isSame_80_4 : (decode cX11_isSame 80 = .ok (.iload_n 2, 1)) ∧ (decode cX11_isSame 81 = .ok (.iconst 0, 1)) ∧ (decode cX11_isSame 82 = .ok (.iconst 0, 1)) ∧ (decode cX11_isSame 83 = .ok (.invokestatic 36, 3)) ∧ (decode cX11_isSame 86 = .ok (.iload 4, 2)) ∧ (decode cX11_isSame 88 = .ok (.iadd, 1)) ∧ (decode cX11_isSame 89 = .ok (.iaload, 1)) ∧ (decode cX11_isSame 90 = .ok (.if_icmp .ne 7, 3)) ∧ (decode cX11_isSame 93 = .ok (.iconst 1, 1)) ∧ (decode cX11_isSame 94 = .ok (.goto 4, 3)) ∧ (decode cX11_isSame 97 = .ok (.iconst 0, 1)) ∧ (decode cX11_isSame 98 = .ok (.iand, 1)) := by decide +kernel
def dX11_isSame_80 := db_cX11_isSame_dX11_isSame_80_4.1
def dX11_isSame_81 := db_cX11_isSame_dX11_isSame_80_4.2.1
def dX11_isSame_82 := db_cX11_isSame_dX11_isSame_80_4.2.2.1
def dX11_isSame_83 := db_cX11_isSame_dX11_isSame_80_4.2.2.2.1
def dX11_isSame_86 := db_cX11_isSame_dX11_isSame_80_4.2.2.2.2.1
def dX11_isSame_88 := db_cX11_isSame_dX11_isSame_80_4.2.2.2.2.2.1
def dX11_isSame_89 := db_cX11_isSame_dX11_isSame_80_4.2.2.2.2.2.2.1
def dX11_isSame_90 := db_cX11_isSame_dX11_isSame_80_4.2.2.2.2.2.2.2.1
def dX11_isSame_93 := db_cX11_isSame_dX11_isSame_80_4.2.2.2.2.2.2.2.2.1
def dX11_isSame_94 := db_cX11_isSame_dX11_isSame_80_4.2.2.2.2.2.2.2.2.2.1
def dX11_isSame_97 := db_cX11_isSame_dX11_isSame_80_4.2.2.2.2.2.2.2.2.2.2.1
def dX11_isSame_98 := db_cX11_isSame_dX11_isSame_80_4.2.2.2.2.2.2.2.2.2.2.2
set_option maxRecDepth 100000 in
theorem db_cX11_isSame_dX11_isSame_99_5 : (decode cX11_isSame 99 = .ok (.istore_n 3, 1)) ∧ (decode cX11_isSame 100 = .ok (.iinc 4 1, 3)) ∧ (decode cX11_isSame 103 = .ok (.goto (-49), 3)) ∧ (decode cX11_isSame 106 = .ok (.iload_n 3, 1)) ∧ (decode cX11_isSame 107 = .ok (.ireturn, 1)) := by decide +kernel
def dX11_isSame_99 := db_cX11_isSame_dX11_isSame_99_5.1
def dX11_isSame_100 := db_cX11_isSame_dX11_isSame_99_5.2.1
def dX11_isSame_103 := db_cX11_isSame_dX11_isSame_99_5.2.2.1
def dX11_isSame_106 := db_cX11_isSame_dX11_isSame_99_5.2.2.2.1
def dX11_isSame_107 := db_cX11_isSame_dX11_isSame_99_5.2.2.2.2
set_option maxRecDepth 100000 in
theorem db_cX11_copy_dX11_copy_0_0 : (decode cX11_copy 0 = .ok (.aload_n 0, 1)) ∧ (decode cX11_copy 1 = .ok (.iload_n 1, 1)) ∧ (decode cX11_copy 2 = .ok (.invokestatic 93, 3)) ∧ (decode cX11_copy 5 = .ok (.ifCond .eq 14, 3)) ∧ (decode cX11_copy 8 = .ok (.iload_n 2, 1)) ∧ (decode cX11_copy 9 = .ok (.invokestatic 93, 3)) ∧ (decode cX11_copy 12 = .ok (.ifCond .eq 7, 3)) ∧ (decode cX11_copy 15 = .ok (.iconst 1, 1)) ∧ (decode cX11_copy 16 = .ok (.goto 4, 3)) ∧ (decode cX11_copy 19 = .ok (.iconst 0, 1)) ∧ (decode cX11_copy 20 = .ok (.iconst 1, 1)) ∧ (decode cX11_copy 21 = .ok (.invokevirtual 97, 3)) := by decide +kernel
def dX11_copy_0 := db_cX11_copy_dX11_copy_0_0.1
def dX11_copy_1 := db_cX11_copy_dX11_copy_0_0.2.1
def dX11_copy_2 := db_cX11_copy_dX11_copy_0_0.2.2.1
def dX11_copy_5 := db_cX11_copy_dX11_copy_0_0.2.2.2.1
def dX11_copy_8 := db_cX11_copy_dX11_copy_0_0.2.2.2.2.1
def dX11_copy_9 := db_cX11_copy_dX11_copy_0_0.2.2.2.2.2.1
def dX11_copy_12 := db_cX11_copy_dX11_copy_0_0.2.2.2.2.2.2.1
def dX11_copy_15 := db_cX11_copy_dX11_copy_0_0.2.2.2.2.2.2.2.1
def dX11_copy_16 := db_cX11_copy_dX11_copy_0_0.2.2.2.2.2.2.2.2.1
def dX11_copy_19 := db_cX11_copy_dX11_copy_0_0.2.2.2.2.2.2.2.2.2.1
def dX11_copy_20 := db_cX11_copy_dX11_copy_0_0.2.2.2.2.2.2.2.2.2.2.1
def dX11_copy_21 := db_cX11_copy_dX11_copy_0_0.2.2.2.2.2.2.2.2.2.2.2
set_option maxRecDepth 100000 in
theorem db_cX11_copy_dX11_copy_24_1 : (decode cX11_copy 24 = .ok (.ifCond .eq 5, 3)) ∧ (decode cX11_copy 27 = .ok (.iconst 0, 1)) ∧ (decode cX11_copy 28 = .ok (.ireturn, 1)) ∧ (decode cX11_copy 29 = .ok (.aload_n 0, 1)) ∧ (decode cX11_copy 30 = .ok (.iload_n 1, 1)) ∧ (decode cX11_copy 31 = .ok (.iload_n 2, 1)) ∧ (decode cX11_copy 32 = .ok (.invokevirtual 121, 3)) ∧ (decode cX11_copy 35 = .ok (.istore_n 3, 1)) ∧ (decode cX11_copy 36 = .ok (.aload_n 0, 1)) ∧ (decode cX11_copy 37 = .ok (.getfield 7, 3)) ∧ (decode cX11_copy 40 = .ok (.iload_n 2, 1)) ∧ (decode cX11_copy 41 = .ok (.aload_n 0, 1)) := by decide +kernel
def dX11_copy_24 := db_cX11_copy_dX11_copy_24_1.1
def dX11_copy_27 := db_cX11_copy_dX11_copy_24_1.2.1
def dX11_copy_28 := db_cX11_copy_dX11_copy_24_1.2.2.1
def dX11_copy_29 := db_cX11_copy_dX11_copy_24_1.2.2.2.1
def dX11_copy_30 := db_cX11_copy_dX11_copy_24_1.2.2.2.2.1
def dX11_copy_31 := db_cX11_copy_dX11_copy_24_1.2.2.2.2.2.1
def dX11_copy_32 := db_cX11_copy_dX11_copy_24_1.2.2.2.2.2.2.1
def dX11_copy_35 := db_cX11_copy_dX11_copy_24_1.2.2.2.2.2.2.2.1
def dX11_copy_36 := db_cX11_copy_dX11_copy_24_1.2.2.2.2.2.2.2.2.1
def dX11_copy_37 := db_cX11_copy_dX11_copy_24_1.2.2.2.2.2.2.2.2.2.1
def dX11_copy_40 := db_cX11_copy_dX11_copy_24_1.2.2.2.2.2.2.2.2.2.2.1
def dX11_copy_41 := db_cX11_copy_dX11_copy_24_1.2.2.2.2.2.2.2.2.2.2.2
set_option maxRecDepth 100000 in
theorem db_cX11_copy_dX11_copy_42_2 : (decode cX11_copy 42 = .ok (.getfield 7, 3)) ∧ (decode cX11_copy 45 = .ok (.iload_n 1, 1)) ∧ (decode cX11_copy 46 = .ok (.iaload, 1)) ∧ (decode cX11_copy 47 = .ok (.iastore, 1)) ∧ (decode cX11_copy 48 = .ok (.aload_n 0, 1)) ∧ (decode cX11_copy 49 = .ok (.getfield 13, 3)) ∧ (decode cX11_copy 52 = .ok (.iload_n 2, 1)) ∧ (decode cX11_copy 53 = .ok (.aload_n 0, 1)) ∧ (decode cX11_copy 54 = .ok (.getfield 13, 3)) ∧ (decode cX11_copy 57 = .ok (.iload_n 1, 1)) ∧ (decode cX11_copy 58 = .ok (.iaload, 1)) ∧ (decode cX11_copy 59 = .ok (.iastore, 1)) := by decide +kernel
def dX11_copy_42 := db_cX11_copy_dX11_copy_42_2.1
def dX11_copy_45 := db_cX11_copy_dX11_copy_42_2.2.1
def dX11_copy_46 := db_cX11_copy_dX11_copy_42_2.2.2.1
def dX11_copy_47 := db_cX11_copy_dX11_copy_42_2.2.2.2.1
def dX11_copy_48 := db_cX11_copy_dX11_copy_42_2.2.2.2.2.1
def dX11_copy_49 := db_cX11_copy_dX11_copy_42_2.2.2.2.2.2.1
def dX11_copy_52 := db_cX11_copy_dX11_copy_42_2.2.2.2.2.2.2.1
def dX11_copy_53 := db_cX11_copy_dX11_copy_42_2.2.2.2.2.2.2.2.1
def dX11_copy_54 := db_cX11_copy_dX11_copy_42_2.2.2.2.2.2.2.2.2.1
def dX11_copy_57 := db_cX11_copy_dX11_copy_42_2.2.2.2.2.2.2.2.2.2.1
def dX11_copy_58 := db_cX11_copy_dX11_copy_42_2.2.2.2.2.2.2.2.2.2.2.1
def dX11_copy_59 := db_cX11_copy_dX11_copy_42_2.2.2.2.2.2.2.2.2.2.2.2
set_option maxRecDepth 100000 in
theorem db_cX11_copy_dX11_copy_60_3 : (decode cX11_copy 60 = .ok (.aload_n 0, 1)) ∧ (decode cX11_copy 61 = .ok (.getfield 16, 3)) ∧ (decode cX11_copy 64 = .ok (.iload_n 2, 1)) ∧ (decode cX11_copy 65 = .ok (.aload_n 0, 1)) ∧ (decode cX11_copy 66 = .ok (.getfield 16, 3)) ∧ (decode cX11_copy 69 = .ok (.iload_n 1, 1)) ∧ (decode cX11_copy 70 = .ok (.iaload, 1)) ∧ (decode cX11_copy 71 = .ok (.iastore, 1)) ∧ (decode cX11_copy 72 = .ok (.iconst 0, 1)) ∧ (decode cX11_copy 73 = .ok (.istore 4, 2)) ∧ (decode cX11_copy 75 = .ok (.iload 4, 2)) ∧ (decode cX11_copy 77 = .ok (.bipush 21, 2)) := by decide +kernel
def dX11_copy_60 := db_cX11_copy_dX11_copy_60_3.1
def dX11_copy_61 := db_cX11_copy_dX11_copy_60_3.2.1
def dX11_copy_64 := db_cX11_copy_dX11_copy_60_3.2.2.1
def dX11_copy_65 := db_cX11_copy_dX11_copy_60_3.2.2.2.1
def dX11_copy_66 := db_cX11_copy_dX11_copy_60_3.2.2.2.2.1
def dX11_copy_69 := db_cX11_copy_dX11_copy_60_3.2.2.2.2.2.1
def dX11_copy_70 := db_cX11_copy_dX11_copy_60_3.2.2.2.2.2.2.1
def dX11_copy_71 := db_cX11_copy_dX11_copy_60_3.2.2.2.2.2.2.2.1
def dX11_copy_72 := db_cX11_copy_dX11_copy_60_3.2.2.2.2.2.2.2.2.1
def dX11_copy_73 := db_cX11_copy_dX11_copy_60_3.2.2.2.2.2.2.2.2.2.1
def dX11_copy_75 := db_cX11_copy_dX11_copy_60_3.2.2.2.2.2.2.2.2.2.2.1
def dX11_copy_77 := db_cX11_copy_dX11_copy_60_3.2.2.2.2.2.2.2.2.2.2.2
set_option maxRecDepth 100000 in
theorem db_cX11_copy_dX11_copy_79_4 : (decode cX11_copy 79 = .ok (.if_icmp .ge 37, 3)) ∧ (decode cX11_copy 82 = .ok (.aload_n 0, 1)) ∧ (decode cX11_copy 83 = .ok (.getfield 19, 3)) ∧ (decode cX11_copy 86 = .ok (.iload_n 2, 1)) ∧ (decode cX11_copy 87 = .ok (.iconst 0, 1)) ∧ (decode cX11_copy 88 = .ok (.iconst 0, 1)) ∧ (decode cX11_copy 89 = .ok (.invokestatic 36, 3)) ∧ (decode cX11_copy 92 = .ok (.iload 4, 2)) ∧ (decode cX11_copy 94 = .ok (.iadd, 1)) ∧ (decode cX11_copy 95 = .ok (.aload_n 0, 1)) ∧ (decode cX11_copy 96 = .ok (.getfield 19, 3)) ∧ (decode cX11_copy 99 = .ok (.iload_n 1, 1)) := by decide +kernel
def dX11_copy_79 := db_cX11_copy_dX11_copy_79_4.1
def dX11_copy_82 := db_cX11_copy_dX11_copy_79_4.2.1
def dX11_copy_83 := db_cX11_copy_dX11_copy_79_4.2.2.1
def dX11_copy_86 := db_cX11_copy_dX11_copy_79_4.2.2.2.1
def dX11_copy_87 := db_cX11_copy_dX11_copy_79_4.2.2.2.2.1
def dX11_copy_88 := db_cX11_copy_dX11_copy_79_4.2.2.2.2.2.1
def dX11_copy_89 := db_cX11_copy_dX11_copy_79_4.2.2.2.2.2.2.1
def dX11_copy_92 := db_cX11_copy_dX11_copy_79_4.2.2.2.2.2.2.2.1
def dX11_copy_94 := db_cX11_copy_dX11_copy_79_4.2.2.2.2.2.2.2.2.1
def dX11_copy_95 := db_cX11_copy_dX11_copy_79_4.2.2.2.2.2.2.2.2.2.1
def dX11_copy_96 := db_cX11_copy_dX11_copy_79_4.2.2.2.2.2.2.2.2.2.2.1
def dX11_copy_99 := db_cX11_copy_dX11_copy_79_4.2.2.2.2.2.2.2.2.2.2.2
set_option maxRecDepth 100000 in
theorem db_cX11_copy_dX11_copy_100_5 : (decode cX11_copy 100 = .ok (.iconst 0, 1)) ∧ (decode cX11_copy 101 = .ok (.iconst 0, 1)) ∧ (decode cX11_copy 102 = .ok (.invokestatic 36, 3)) ∧ (decode cX11_copy 105 = .ok (.iload 4, 2)) ∧ (decode cX11_copy 107 = .ok (.iadd, 1)) ∧ (decode cX11_copy 108 = .ok (.iaload, 1)) ∧ (decode cX11_copy 109 = .ok (.iastore, 1)) ∧ (decode cX11_copy 110 = .ok (.iinc 4 1, 3)) ∧ (decode cX11_copy 113 = .ok (.goto (-38), 3)) ∧ (decode cX11_copy 116 = .ok (.aload_n 0, 1)) ∧ (decode cX11_copy 117 = .ok (.iload_n 3, 1)) ∧ (decode cX11_copy 118 = .ok (.ifCond .eq 7, 3)) := by decide +kernel
def dX11_copy_100 := db_cX11_copy_dX11_copy_100_5.1
def dX11_copy_101 := db_cX11_copy_dX11_copy_100_5.2.1
def dX11_copy_102 := db_cX11_copy_dX11_copy_100_5.2.2.1
def dX11_copy_105 := db_cX11_copy_dX11_copy_100_5.2.2.2.1
def dX11_copy_107 := db_cX11_copy_dX11_copy_100_5.2.2.2.2.1
def dX11_copy_108 := db_cX11_copy_dX11_copy_100_5.2.2.2.2.2.1
def dX11_copy_109 := db_cX11_copy_dX11_copy_100_5.2.2.2.2.2.2.1
def dX11_copy_110 := db_cX11_copy_dX11_copy_100_5.2.2.2.2.2.2.2.1
def dX11_copy_113 := db_cX11_copy_dX11_copy_100_5.2.2.2.2.2.2.2.2.1
def dX11_copy_116 := db_cX11_copy_dX11_copy_100_5.2.2.2.2.2.2.2.2.2.1
def dX11_copy_117 := db_cX11_copy_dX11_copy_100_5.2.2.2.2.2.2.2.2.2.2.1
def dX11_copy_118 := db_cX11_copy_dX11_copy_100_5.2.2.2.2.2.2.2.2.2.2.2
set_option maxRecDepth 100000 in
theorem db_cX11_copy_dX11_copy_121_6 : (decode cX11_copy 121 = .ok (.iconst 0, 1)) ∧ (decode cX11_copy 122 = .ok (.goto 4, 3)) ∧ (decode cX11_copy 125 = .ok (.iconst 1, 1)) ∧ (decode cX11_copy 126 = .ok (.invokevirtual 108, 3)) ∧ (decode cX11_copy 129 = .ok (.ireturn, 1)) := by decide +kernel
def dX11_copy_121 := db_cX11_copy_dX11_copy_121_6.1
def dX11_copy_122 := db_cX11_copy_dX11_copy_121_6.2.1
def dX11_copy_125 := db_cX11_copy_dX11_copy_121_6.2.2.1
def dX11_copy_126 := db_cX11_copy_dX11_copy_121_6.2.2.2.1
def dX11_copy_129 := db_cX11_copy_dX11_copy_121_6.2.2.2.2
set_option maxRecDepth 100000 in
theorem db_cX11_exchange_dX11_exchange_0_0 : (decode cX11_exchange 0 = .ok (.aload_n 0, 1)) ∧ (decode cX11_exchange 1 = .ok (.iload_n 1, 1)) ∧ (decode cX11_exchange 2 = .ok (.iaload, 1)) ∧ (decode cX11_exchange 3 = .ok (.istore_n 3, 1)) ∧ (decode cX11_exchange 4 = .ok (.aload_n 0, 1)) ∧ (decode cX11_exchange 5 = .ok (.iload_n 1, 1)) ∧ (decode cX11_exchange 6 = .ok (.aload_n 0, 1)) ∧ (decode cX11_exchange 7 = .ok (.iload_n 2, 1)) ∧ (decode cX11_exchange 8 = .ok (.iaload, 1)) ∧ (decode cX11_exchange 9 = .ok (.iastore, 1)) ∧ (decode cX11_exchange 10 = .ok (.aload_n 0, 1)) ∧ (decode cX11_exchange 11 = .ok (.iload_n 2, 1)) := by decide +kernel
def dX11_exchange_0 := db_cX11_exchange_dX11_exchange_0_0.1
def dX11_exchange_1 := db_cX11_exchange_dX11_exchange_0_0.2.1
def dX11_exchange_2 := db_cX11_exchange_dX11_exchange_0_0.2.2.1
def dX11_exchange_3 := db_cX11_exchange_dX11_exchange_0_0.2.2.2.1
def dX11_exchange_4 := db_cX11_exchange_dX11_exchange_0_0.2.2.2.2.1
def dX11_exchange_5 := db_cX11_exchange_dX11_exchange_0_0.2.2.2.2.2.1
def dX11_exchange_6 := db_cX11_exchange_dX11_exchange_0_0.2.2.2.2.2.2.1
def dX11_exchange_7 := db_cX11_exchange_dX11_exchange_0_0.2.2.2.2.2.2.2.1
def dX11_exchange_8 := db_cX11_exchange_dX11_exchange_0_0.2.2.2.2.2.2.2.2.1
def dX11_exchange_9 := db_cX11_exchange_dX11_exchange_0_0.2.2.2.2.2.2.2.2.2.1
def dX11_exchange_10 := db_cX11_exchange_dX11_exchange_0_0.2.2.2.2.2.2.2.2.2.2.1
def dX11_exchange_11 := db_cX11_exchange_dX11_exchange_0_0.2.2.2.2.2.2.2.2.2.2.2
set_option maxRecDepth 100000 in
theorem db_cX11_exchange_dX11_exchange_12_1 : (decode cX11_exchange 12 = .ok (.iload_n 3, 1)) ∧ (decode cX11_exchange 13 = .ok (.iastore, 1)) ∧ (decode cX11_exchange 14 = .ok (.return_, 1)) := by decide +kernel
def dX11_exchange_12 := db_cX11_exchange_dX11_exchange_12_1.1
def dX11_exchange_13 := db_cX11_exchange_dX11_exchange_12_1.2.1
def dX11_exchange_14 := db_cX11_exchange_dX11_exchange_12_1.2.2
set_option maxRecDepth 100000 in
theorem db_cX11_swap_dX11_swap_0_0 : (decode cX11_swap 0 = .ok (.aload_n 0, 1)) ∧ (decode cX11_swap 1 = .ok (.iload_n 1, 1)) ∧ (decode cX11_swap 2 = .ok (.invokestatic 93, 3)) ∧ (decode cX11_swap 5 = .ok (.ifCond .eq 14, 3)) ∧ (decode cX11_swap 8 = .ok (.iload_n 2, 1)) ∧ (decode cX11_swap 9 = .ok (.invokestatic 93, 3)) ∧ (decode cX11_swap 12 = .ok (.ifCond .eq 7, 3)) ∧ (decode cX11_swap 15 = .ok (.iconst 1, 1)) ∧ (decode cX11_swap 16 = .ok (.goto 4, 3)) ∧ (decode cX11_swap 19 = .ok (.iconst 0, 1)) ∧ (decode cX11_swap 20 = .ok (.iconst 1, 1)) ∧ (decode cX11_swap 21 = .ok (.invokevirtual 97, 3)) := by decide +kernel
def dX11_swap_0 := db_cX11_swap_dX11_swap_0_0.1
def dX11_swap_1 := db_cX11_swap_dX11_swap_0_0.2.1
def dX11_swap_2 := db_cX11_swap_dX11_swap_0_0.2.2.1
def dX11_swap_5 := db_cX11_swap_dX11_swap_0_0.2.2.2.1
def dX11_swap_8 := db_cX11_swap_dX11_swap_0_0.2.2.2.2.1
def dX11_swap_9 := db_cX11_swap_dX11_swap_0_0.2.2.2.2.2.1
def dX11_swap_12 := db_cX11_swap_dX11_swap_0_0.2.2.2.2.2.2.1
def dX11_swap_15 := db_cX11_swap_dX11_swap_0_0.2.2.2.2.2.2.2.1
def dX11_swap_16 := db_cX11_swap_dX11_swap_0_0.2.2.2.2.2.2.2.2.1
def dX11_swap_19 := db_cX11_swap_dX11_swap_0_0.2.2.2.2.2.2.2.2.2.1
def dX11_swap_20 := db_cX11_swap_dX11_swap_0_0.2.2.2.2.2.2.2.2.2.2.1
def dX11_swap_21 := db_cX11_swap_dX11_swap_0_0.2.2.2.2.2.2.2.2.2.2.2
set_option maxRecDepth 100000 in
theorem db_cX11_swap_dX11_swap_24_1 : (decode cX11_swap 24 = .ok (.ifCond .eq 5, 3)) ∧ (decode cX11_swap 27 = .ok (.iconst 0, 1)) ∧ (decode cX11_swap 28 = .ok (.ireturn, 1)) ∧ (decode cX11_swap 29 = .ok (.aload_n 0, 1)) ∧ (decode cX11_swap 30 = .ok (.iload_n 1, 1)) ∧ (decode cX11_swap 31 = .ok (.iload_n 2, 1)) ∧ (decode cX11_swap 32 = .ok (.invokevirtual 121, 3)) ∧ (decode cX11_swap 35 = .ok (.istore_n 3, 1)) ∧ (decode cX11_swap 36 = .ok (.aload_n 0, 1)) ∧ (decode cX11_swap 37 = .ok (.getfield 7, 3)) ∧ (decode cX11_swap 40 = .ok (.iload_n 1, 1)) ∧ (decode cX11_swap 41 = .ok (.iload_n 2, 1)) := by decide +kernel
def dX11_swap_24 := db_cX11_swap_dX11_swap_24_1.1
def dX11_swap_27 := db_cX11_swap_dX11_swap_24_1.2.1
def dX11_swap_28 := db_cX11_swap_dX11_swap_24_1.2.2.1
def dX11_swap_29 := db_cX11_swap_dX11_swap_24_1.2.2.2.1
def dX11_swap_30 := db_cX11_swap_dX11_swap_24_1.2.2.2.2.1
def dX11_swap_31 := db_cX11_swap_dX11_swap_24_1.2.2.2.2.2.1
def dX11_swap_32 := db_cX11_swap_dX11_swap_24_1.2.2.2.2.2.2.1
def dX11_swap_35 := db_cX11_swap_dX11_swap_24_1.2.2.2.2.2.2.2.1
def dX11_swap_36 := db_cX11_swap_dX11_swap_24_1.2.2.2.2.2.2.2.2.1
def dX11_swap_37 := db_cX11_swap_dX11_swap_24_1.2.2.2.2.2.2.2.2.2.1
def dX11_swap_40 := db_cX11_swap_dX11_swap_24_1.2.2.2.2.2.2.2.2.2.2.1
def dX11_swap_41 := db_cX11_swap_dX11_swap_24_1.2.2.2.2.2.2.2.2.2.2.2
set_option maxRecDepth 100000 in
theorem db_cX11_swap_dX11_swap_42_2 : (decode cX11_swap 42 = .ok (.invokestatic 124, 3)) ∧ (decode cX11_swap 45 = .ok (.aload_n 0, 1)) ∧ (decode cX11_swap 46 = .ok (.getfield 13, 3)) ∧ (decode cX11_swap 49 = .ok (.iload_n 1, 1)) ∧ (decode cX11_swap 50 = .ok (.iload_n 2, 1)) ∧ (decode cX11_swap 51 = .ok (.invokestatic 124, 3)) ∧ (decode cX11_swap 54 = .ok (.aload_n 0, 1)) ∧ (decode cX11_swap 55 = .ok (.getfield 16, 3)) ∧ (decode cX11_swap 58 = .ok (.iload_n 1, 1)) ∧ (decode cX11_swap 59 = .ok (.iload_n 2, 1)) ∧ (decode cX11_swap 60 = .ok (.invokestatic 124, 3)) ∧ (decode cX11_swap 63 = .ok (.iconst 0, 1)) := by decide +kernel
def dX11_swap_42 := db_cX11_swap_dX11_swap_42_2.1
def dX11_swap_45 := db_cX11_swap_dX11_swap_42_2.2.1
def dX11_swap_46 := db_cX11_swap_dX11_swap_42_2.2.2.1
def dX11_swap_49 := db_cX11_swap_dX11_swap_42_2.2.2.2.1
def dX11_swap_50 := db_cX11_swap_dX11_swap_42_2.2.2.2.2.1
def dX11_swap_51 := db_cX11_swap_dX11_swap_42_2.2.2.2.2.2.1
def dX11_swap_54 := db_cX11_swap_dX11_swap_42_2.2.2.2.2.2.2.1
def dX11_swap_55 := db_cX11_swap_dX11_swap_42_2.2.2.2.2.2.2.2.1
def dX11_swap_58 := db_cX11_swap_dX11_swap_42_2.2.2.2.2.2.2.2.2.1
def dX11_swap_59 := db_cX11_swap_dX11_swap_42_2.2.2.2.2.2.2.2.2.2.1
def dX11_swap_60 := db_cX11_swap_dX11_swap_42_2.2.2.2.2.2.2.2.2.2.2.1
def dX11_swap_63 := db_cX11_swap_dX11_swap_42_2.2.2.2.2.2.2.2.2.2.2.2
set_option maxRecDepth 100000 in
theorem db_cX11_swap_dX11_swap_64_3 : (decode cX11_swap 64 = .ok (.istore 4, 2)) ∧ (decode cX11_swap 66 = .ok (.iload 4, 2)) ∧ (decode cX11_swap 68 = .ok (.bipush 21, 2)) ∧ (decode cX11_swap 70 = .ok (.if_icmp .ge 34, 3)) ∧ (decode cX11_swap 73 = .ok (.aload_n 0, 1)) ∧ (decode cX11_swap 74 = .ok (.getfield 19, 3)) ∧ (decode cX11_swap 77 = .ok (.iload_n 1, 1)) ∧ (decode cX11_swap 78 = .ok (.iconst 0, 1)) ∧ (decode cX11_swap 79 = .ok (.iconst 0, 1)) ∧ (decode cX11_swap 80 = .ok (.invokestatic 36, 3)) ∧ (decode cX11_swap 83 = .ok (.iload 4, 2)) ∧ (decode cX11_swap 85 = .ok (.iadd, 1)) := by decide +kernel
def dX11_swap_64 := db_cX11_swap_dX11_swap_64_3.1
def dX11_swap_66 := db_cX11_swap_dX11_swap_64_3.2.1
def dX11_swap_68 := db_cX11_swap_dX11_swap_64_3.2.2.1
def dX11_swap_70 := db_cX11_swap_dX11_swap_64_3.2.2.2.1
def dX11_swap_73 := db_cX11_swap_dX11_swap_64_3.2.2.2.2.1
def dX11_swap_74 := db_cX11_swap_dX11_swap_64_3.2.2.2.2.2.1
def dX11_swap_77 := db_cX11_swap_dX11_swap_64_3.2.2.2.2.2.2.1
def dX11_swap_78 := db_cX11_swap_dX11_swap_64_3.2.2.2.2.2.2.2.1
def dX11_swap_79 := db_cX11_swap_dX11_swap_64_3.2.2.2.2.2.2.2.2.1
def dX11_swap_80 := db_cX11_swap_dX11_swap_64_3.2.2.2.2.2.2.2.2.2.1
def dX11_swap_83 := db_cX11_swap_dX11_swap_64_3.2.2.2.2.2.2.2.2.2.2.1
def dX11_swap_85 := db_cX11_swap_dX11_swap_64_3.2.2.2.2.2.2.2.2.2.2.2
set_option maxRecDepth 100000 in
theorem db_cX11_swap_dX11_swap_86_4 : (decode cX11_swap 86 = .ok (.iload_n 2, 1)) ∧ (decode cX11_swap 87 = .ok (.iconst 0, 1)) ∧ (decode cX11_swap 88 = .ok (.iconst 0, 1)) ∧ (decode cX11_swap 89 = .ok (.invokestatic 36, 3)) ∧ (decode cX11_swap 92 = .ok (.iload 4, 2)) ∧ (decode cX11_swap 94 = .ok (.iadd, 1)) ∧ (decode cX11_swap 95 = .ok (.invokestatic 124, 3)) ∧ (decode cX11_swap 98 = .ok (.iinc 4 1, 3)) ∧ (decode cX11_swap 101 = .ok (.goto (-35), 3)) ∧ (decode cX11_swap 104 = .ok (.aload_n 0, 1)) ∧ (decode cX11_swap 105 = .ok (.iload_n 3, 1)) ∧ (decode cX11_swap 106 = .ok (.ifCond .eq 7, 3)) := by decide +kernel
def dX11_swap_86 := db_cX11_swap_dX11_swap_86_4.1
def dX11_swap_87 := db_cX11_swap_dX11_swap_86_4.2.1
def dX11_swap_88 := db_cX11_swap_dX11_swap_86_4.2.2.1
def dX11_swap_89 := db_cX11_swap_dX11_swap_86_4.2.2.2.1
def dX11_swap_92 := db_cX11_swap_dX11_swap_86_4.2.2.2.2.1
def dX11_swap_94 := db_cX11_swap_dX11_swap_86_4.2.2.2.2.2.1
def dX11_swap_95 := db_cX11_swap_dX11_swap_86_4.2.2.2.2.2.2.1
def dX11_swap_98 := db_cX11_swap_dX11_swap_86_4.2.2.2.2.2.2.2.1
def dX11_swap_101 := db_cX11_swap_dX11_swap_86_4.2.2.2.2.2.2.2.2.1
def dX11_swap_104 := db_cX11_swap_dX11_swap_86_4.2.2.2.2.2.2.2.2.2.1
def dX11_swap_105 := db_cX11_swap_dX11_swap_86_4.2.2.2.2.2.2.2.2.2.2.1
def dX11_swap_106 := db_cX11_swap_dX11_swap_86_4.2.2.2.2.2.2.2.2.2.2.2
set_option maxRecDepth 100000 in
theorem db_cX11_swap_dX11_swap_109_5 : (decode cX11_swap 109 = .ok (.iconst 0, 1)) ∧ (decode cX11_swap 110 = .ok (.goto 4, 3)) ∧ (decode cX11_swap 113 = .ok (.iconst 1, 1)) ∧ (decode cX11_swap 114 = .ok (.invokevirtual 108, 3)) ∧ (decode cX11_swap 117 = .ok (.ireturn, 1)) := by decide +kernel
def dX11_swap_109 := db_cX11_swap_dX11_swap_109_5.1
def dX11_swap_110 := db_cX11_swap_dX11_swap_109_5.2.1
def dX11_swap_113 := db_cX11_swap_dX11_swap_109_5.2.2.1
def dX11_swap_114 := db_cX11_swap_dX11_swap_109_5.2.2.2.1
def dX11_swap_117 := db_cX11_swap_dX11_swap_109_5.2.2.2.2
set_option maxRecDepth 100000 in
theorem db_cX11_turn_dX11_turn_0_0 : (decode cX11_turn 0 = .ok (.aload_n 0, 1)) ∧ (decode cX11_turn 1 = .ok (.iload_n 1, 1)) ∧ (decode cX11_turn 2 = .ok (.invokestatic 93, 3)) ∧ (decode cX11_turn 5 = .ok (.iconst 1, 1)) ∧ (decode cX11_turn 6 = .ok (.invokevirtual 97, 3)) ∧ (decode cX11_turn 9 = .ok (.ifCond .eq 5, 3)) ∧ (decode cX11_turn 12 = .ok (.iconst 0, 1)) ∧ (decode cX11_turn 13 = .ok (.ireturn, 1)) ∧ (decode cX11_turn 14 = .ok (.aload_n 0, 1)) ∧ (decode cX11_turn 15 = .ok (.iload_n 1, 1)) ∧ (decode cX11_turn 16 = .ok (.invokevirtual 54, 3)) ∧ (decode cX11_turn 19 = .ok (.astore_n 2, 1)) := by decide +kernel
def dX11_turn_0 := db_cX11_turn_dX11_turn_0_0.1
def dX11_turn_1 := db_cX11_turn_dX11_turn_0_0.2.1
def dX11_turn_2 := db_cX11_turn_dX11_turn_0_0.2.2.1
def dX11_turn_5 := db_cX11_turn_dX11_turn_0_0.2.2.2.1
def dX11_turn_6 := db_cX11_turn_dX11_turn_0_0.2.2.2.2.1
def dX11_turn_9 := db_cX11_turn_dX11_turn_0_0.2.2.2.2.2.1
def dX11_turn_12 := db_cX11_turn_dX11_turn_0_0.2.2.2.2.2.2.1
def dX11_turn_13 := db_cX11_turn_dX11_turn_0_0.2.2.2.2.2.2.2.1
def dX11_turn_14 := db_cX11_turn_dX11_turn_0_0.2.2.2.2.2.2.2.2.1
def dX11_turn_15 := db_cX11_turn_dX11_turn_0_0.2.2.2.2.2.2.2.2.2.1
def dX11_turn_16 := db_cX11_turn_dX11_turn_0_0.2.2.2.2.2.2.2.2.2.2.1
def dX11_turn_19 := db_cX11_turn_dX11_turn_0_0.2.2.2.2.2.2.2.2.2.2.2
set_option maxRecDepth 100000 in
theorem db_cX11_turn_dX11_turn_20_1 : (decode cX11_turn 20 = .ok (.iconst 0, 1)) ∧ (decode cX11_turn 21 = .ok (.istore_n 3, 1)) ∧ (decode cX11_turn 22 = .ok (.iload_n 3, 1)) ∧ (decode cX11_turn 23 = .ok (.aload_n 0, 1)) ∧ (decode cX11_turn 24 = .ok (.getfield 7, 3)) ∧ (decode cX11_turn 27 = .ok (.iload_n 1, 1)) ∧ (decode cX11_turn 28 = .ok (.iaload, 1)) ∧ (decode cX11_turn 29 = .ok (.if_icmp .ge 53, 3)) ∧ (decode cX11_turn 32 = .ok (.iconst 0, 1)) ∧ (decode cX11_turn 33 = .ok (.istore 4, 2)) ∧ (decode cX11_turn 35 = .ok (.iload 4, 2)) ∧ (decode cX11_turn 37 = .ok (.iconst 3, 1)) := by decide +kernel
def dX11_turn_20 := db_cX11_turn_dX11_turn_20_1.1
def dX11_turn_21 := db_cX11_turn_dX11_turn_20_1.2.1
def dX11_turn_22 := db_cX11_turn_dX11_turn_20_1.2.2.1
def dX11_turn_23 := db_cX11_turn_dX11_turn_20_1.2.2.2.1
def dX11_turn_24 := db_cX11_turn_dX11_turn_20_1.2.2.2.2.1
def dX11_turn_27 := db_cX11_turn_dX11_turn_20_1.2.2.2.2.2.1
def dX11_turn_28 := db_cX11_turn_dX11_turn_20_1.2.2.2.2.2.2.1
def dX11_turn_29 := db_cX11_turn_dX11_turn_20_1.2.2.2.2.2.2.2.1
def dX11_turn_32 := db_cX11_turn_dX11_turn_20_1.2.2.2.2.2.2.2.2.1
def dX11_turn_33 := db_cX11_turn_dX11_turn_20_1.2.2.2.2.2.2.2.2.2.1
def dX11_turn_35 := db_cX11_turn_dX11_turn_20_1.2.2.2.2.2.2.2.2.2.2.1
def dX11_turn_37 := db_cX11_turn_dX11_turn_20_1.2.2.2.2.2.2.2.2.2.2.2
set_option maxRecDepth 100000 in
theorem db_cX11_turn_dX11_turn_38_2 : (decode cX11_turn 38 = .ok (.if_icmp .ge 38, 3)) ∧ (decode cX11_turn 41 = .ok (.aload_n 0, 1)) ∧ (decode cX11_turn 42 = .ok (.getfield 19, 3)) ∧ (decode cX11_turn 45 = .ok (.iload_n 1, 1)) ∧ (decode cX11_turn 46 = .ok (.iload_n 3, 1)) ∧ (decode cX11_turn 47 = .ok (.iload 4, 2)) ∧ (decode cX11_turn 49 = .ok (.invokestatic 36, 3)) ∧ (decode cX11_turn 52 = .ok (.aload_n 2, 1)) ∧ (decode cX11_turn 53 = .ok (.aload_n 0, 1)) ∧ (decode cX11_turn 54 = .ok (.getfield 7, 3)) ∧ (decode cX11_turn 57 = .ok (.iload_n 1, 1)) ∧ (decode cX11_turn 58 = .ok (.iaload, 1)) := by decide +kernel
def dX11_turn_38 := db_cX11_turn_dX11_turn_38_2.1
def dX11_turn_41 := db_cX11_turn_dX11_turn_38_2.2.1
def dX11_turn_42 := db_cX11_turn_dX11_turn_38_2.2.2.1
def dX11_turn_45 := db_cX11_turn_dX11_turn_38_2.2.2.2.1
def dX11_turn_46 := db_cX11_turn_dX11_turn_38_2.2.2.2.2.1
def dX11_turn_47 := db_cX11_turn_dX11_turn_38_2.2.2.2.2.2.1
def dX11_turn_49 := db_cX11_turn_dX11_turn_38_2.2.2.2.2.2.2.1
def dX11_turn_52 := db_cX11_turn_dX11_turn_38_2.2.2.2.2.2.2.2.1
def dX11_turn_53 := db_cX11_turn_dX11_turn_38_2.2.2.2.2.2.2.2.2.1
def dX11_turn_54 := db_cX11_turn_dX11_turn_38_2.2.2.2.2.2.2.2.2.2.1
def dX11_turn_57 := db_cX11_turn_dX11_turn_38_2.2.2.2.2.2.2.2.2.2.2.1
def dX11_turn_58 := db_cX11_turn_dX11_turn_38_2.2.2.2.2.2.2.2.2.2.2.2
set_option maxRecDepth 100000 in
theorem db_cX11_turn_dX11_turn_59_3 : (decode cX11_turn 59 = .ok (.lconst 1, 1)) ∧ (decode cX11_turn 60 = .ok (.iload_n 3, 1)) ∧ (decode cX11_turn 61 = .ok (.lshl, 1)) ∧ (decode cX11_turn 62 = .ok (.iload 4, 2)) ∧ (decode cX11_turn 64 = .ok (.iconst 1, 1)) ∧ (decode cX11_turn 65 = .ok (.invokestatic 46, 3)) ∧ (decode cX11_turn 68 = .ok (.l2i, 1)) ∧ (decode cX11_turn 69 = .ok (.iastore, 1)) ∧ (decode cX11_turn 70 = .ok (.iinc 4 1, 3)) ∧ (decode cX11_turn 73 = .ok (.goto (-38), 3)) ∧ (decode cX11_turn 76 = .ok (.iinc 3 1, 3)) ∧ (decode cX11_turn 79 = .ok (.goto (-57), 3)) := by decide +kernel
def dX11_turn_59 := db_cX11_turn_dX11_turn_59_3.1
def dX11_turn_60 := db_cX11_turn_dX11_turn_59_3.2.1
def dX11_turn_61 := db_cX11_turn_dX11_turn_59_3.2.2.1
def dX11_turn_62 := db_cX11_turn_dX11_turn_59_3.2.2.2.1
def dX11_turn_64 := db_cX11_turn_dX11_turn_59_3.2.2.2.2.1
def dX11_turn_65 := db_cX11_turn_dX11_turn_59_3.2.2.2.2.2.1
def dX11_turn_68 := db_cX11_turn_dX11_turn_59_3.2.2.2.2.2.2.1
def dX11_turn_69 := db_cX11_turn_dX11_turn_59_3.2.2.2.2.2.2.2.1
def dX11_turn_70 := db_cX11_turn_dX11_turn_59_3.2.2.2.2.2.2.2.2.1
def dX11_turn_73 := db_cX11_turn_dX11_turn_59_3.2.2.2.2.2.2.2.2.2.1
def dX11_turn_76 := db_cX11_turn_dX11_turn_59_3.2.2.2.2.2.2.2.2.2.2.1
def dX11_turn_79 := db_cX11_turn_dX11_turn_59_3.2.2.2.2.2.2.2.2.2.2.2
set_option maxRecDepth 100000 in
theorem db_cX11_turn_dX11_turn_82_4 : (decode cX11_turn 82 = .ok (.aload_n 0, 1)) ∧ (decode cX11_turn 83 = .ok (.getfield 13, 3)) ∧ (decode cX11_turn 86 = .ok (.iload_n 1, 1)) ∧ (decode cX11_turn 87 = .ok (.iaload, 1)) ∧ (decode cX11_turn 88 = .ok (.istore_n 3, 1)) ∧ (decode cX11_turn 89 = .ok (.aload_n 0, 1)) ∧ (decode cX11_turn 90 = .ok (.getfield 13, 3)) ∧ (decode cX11_turn 93 = .ok (.iload_n 1, 1)) ∧ (decode cX11_turn 94 = .ok (.aload_n 0, 1)) ∧ (decode cX11_turn 95 = .ok (.getfield 16, 3)) ∧ (decode cX11_turn 98 = .ok (.iload_n 1, 1)) ∧ (decode cX11_turn 99 = .ok (.iaload, 1)) := by decide +kernel
def dX11_turn_82 := db_cX11_turn_dX11_turn_82_4.1
def dX11_turn_83 := db_cX11_turn_dX11_turn_82_4.2.1
def dX11_turn_86 := db_cX11_turn_dX11_turn_82_4.2.2.1
def dX11_turn_87 := db_cX11_turn_dX11_turn_82_4.2.2.2.1
def dX11_turn_88 := db_cX11_turn_dX11_turn_82_4.2.2.2.2.1
def dX11_turn_89 := db_cX11_turn_dX11_turn_82_4.2.2.2.2.2.1
def dX11_turn_90 := db_cX11_turn_dX11_turn_82_4.2.2.2.2.2.2.1
def dX11_turn_93 := db_cX11_turn_dX11_turn_82_4.2.2.2.2.2.2.2.1
def dX11_turn_94 := db_cX11_turn_dX11_turn_82_4.2.2.2.2.2.2.2.2.1
def dX11_turn_95 := db_cX11_turn_dX11_turn_82_4.2.2.2.2.2.2.2.2.2.1
def dX11_turn_98 := db_cX11_turn_dX11_turn_82_4.2.2.2.2.2.2.2.2.2.2.1
def dX11_turn_99 := db_cX11_turn_dX11_turn_82_4.2.2.2.2.2.2.2.2.2.2.2
set_option maxRecDepth 100000 in
theorem db_cX11_turn_dX11_turn_100_5 : (decode cX11_turn 100 = .ok (.iastore, 1)) ∧ (decode cX11_turn 101 = .ok (.aload_n 0, 1)) ∧ (decode cX11_turn 102 = .ok (.getfield 16, 3)) ∧ (decode cX11_turn 105 = .ok (.iload_n 1, 1)) ∧ (decode cX11_turn 106 = .ok (.iload_n 3, 1)) ∧ (decode cX11_turn 107 = .ok (.iastore, 1)) ∧ (decode cX11_turn 108 = .ok (.aload_n 0, 1)) ∧ (decode cX11_turn 109 = .ok (.aload_n 0, 1)) ∧ (decode cX11_turn 110 = .ok (.iload_n 1, 1)) ∧ (decode cX11_turn 111 = .ok (.invokevirtual 101, 3)) ∧ (decode cX11_turn 114 = .ok (.invokevirtual 108, 3)) ∧ (decode cX11_turn 117 = .ok (.ireturn, 1)) := by decide +kernel
def dX11_turn_100 := db_cX11_turn_dX11_turn_100_5.1
def dX11_turn_101 := db_cX11_turn_dX11_turn_100_5.2.1
def dX11_turn_102 := db_cX11_turn_dX11_turn_100_5.2.2.1
def dX11_turn_105 := db_cX11_turn_dX11_turn_100_5.2.2.2.1
def dX11_turn_106 := db_cX11_turn_dX11_turn_100_5.2.2.2.2.1
def dX11_turn_107 := db_cX11_turn_dX11_turn_100_5.2.2.2.2.2.1
def dX11_turn_108 := db_cX11_turn_dX11_turn_100_5.2.2.2.2.2.2.1
def dX11_turn_109 := db_cX11_turn_dX11_turn_100_5.2.2.2.2.2.2.2.1
def dX11_turn_110 := db_cX11_turn_dX11_turn_100_5.2.2.2.2.2.2.2.2.1
def dX11_turn_111 := db_cX11_turn_dX11_turn_100_5.2.2.2.2.2.2.2.2.2.1
def dX11_turn_114 := db_cX11_turn_dX11_turn_100_5.2.2.2.2.2.2.2.2.2.2.1
def dX11_turn_117 := db_cX11_turn_dX11_turn_100_5.2.2.2.2.2.2.2.2.2.2.2
set_option maxRecDepth 100000 in
theorem db_cX11_other_dX11_other_0_0 : (decode cX11_other 0 = .ok (.aload_n 0, 1)) ∧ (decode cX11_other 1 = .ok (.iload_n 1, 1)) ∧ (decode cX11_other 2 = .ok (.invokestatic 93, 3)) ∧ (decode cX11_other 5 = .ok (.iconst 1, 1)) ∧ (decode cX11_other 6 = .ok (.invokevirtual 97, 3)) ∧ (decode cX11_other 9 = .ok (.ifCond .eq 5, 3)) ∧ (decode cX11_other 12 = .ok (.iconst 0, 1)) ∧ (decode cX11_other 13 = .ok (.ireturn, 1)) ∧ (decode cX11_other 14 = .ok (.aload_n 0, 1)) ∧ (decode cX11_other 15 = .ok (.iload_n 1, 1)) ∧ (decode cX11_other 16 = .ok (.invokevirtual 128, 3)) ∧ (decode cX11_other 19 = .ok (.ifCond .ne 8, 3)) := by decide +kernel
def dX11_other_0 := db_cX11_other_dX11_other_0_0.1
def dX11_other_1 := db_cX11_other_dX11_other_0_0.2.1
def dX11_other_2 := db_cX11_other_dX11_other_0_0.2.2.1
def dX11_other_5 := db_cX11_other_dX11_other_0_0.2.2.2.1
def dX11_other_6 := db_cX11_other_dX11_other_0_0.2.2.2.2.1
def dX11_other_9 := db_cX11_other_dX11_other_0_0.2.2.2.2.2.1
def dX11_other_12 := db_cX11_other_dX11_other_0_0.2.2.2.2.2.2.1
def dX11_other_13 := db_cX11_other_dX11_other_0_0.2.2.2.2.2.2.2.1
def dX11_other_14 := db_cX11_other_dX11_other_0_0.2.2.2.2.2.2.2.2.1
def dX11_other_15 := db_cX11_other_dX11_other_0_0.2.2.2.2.2.2.2.2.2.1
def dX11_other_16 := db_cX11_other_dX11_other_0_0.2.2.2.2.2.2.2.2.2.2.1
def dX11_other_19 := db_cX11_other_dX11_other_0_0.2.2.2.2.2.2.2.2.2.2.2
set_option maxRecDepth 100000 in
theorem db_cX11_other_dX11_other_22_1 : (decode cX11_other 22 = .ok (.aload_n 0, 1)) ∧ (decode cX11_other 23 = .ok (.invokevirtual 131, 3)) ∧ (decode cX11_other 26 = .ok (.ireturn, 1)) ∧ (decode cX11_other 27 = .ok (.aload_n 0, 1)) ∧ (decode cX11_other 28 = .ok (.getfield 16, 3)) ∧ (decode cX11_other 31 = .ok (.iload_n 1, 1)) ∧ (decode cX11_other 32 = .ok (.dup2, 1)) ∧ (decode cX11_other 33 = .ok (.iaload, 1)) ∧ (decode cX11_other 34 = .ok (.iconst 1, 1)) ∧ (decode cX11_other 35 = .ok (.aload_n 0, 1)) ∧ (decode cX11_other 36 = .ok (.getfield 7, 3)) ∧ (decode cX11_other 39 = .ok (.iload_n 1, 1)) := by decide +kernel
def dX11_other_22 := db_cX11_other_dX11_other_22_1.1
def dX11_other_23 := db_cX11_other_dX11_other_22_1.2.1
def dX11_other_26 := db_cX11_other_dX11_other_22_1.2.2.1
def dX11_other_27 := db_cX11_other_dX11_other_22_1.2.2.2.1
def dX11_other_28 := db_cX11_other_dX11_other_22_1.2.2.2.2.1
def dX11_other_31 := db_cX11_other_dX11_other_22_1.2.2.2.2.2.1
def dX11_other_32 := db_cX11_other_dX11_other_22_1.2.2.2.2.2.2.1
def dX11_other_33 := db_cX11_other_dX11_other_22_1.2.2.2.2.2.2.2.1
def dX11_other_34 := db_cX11_other_dX11_other_22_1.2.2.2.2.2.2.2.2.1
def dX11_other_35 := db_cX11_other_dX11_other_22_1.2.2.2.2.2.2.2.2.2.1
def dX11_other_36 := db_cX11_other_dX11_other_22_1.2.2.2.2.2.2.2.2.2.2.1
def dX11_other_39 := db_cX11_other_dX11_other_22_1.2.2.2.2.2.2.2.2.2.2.2
set_option maxRecDepth 100000 in
theorem db_cX11_other_dX11_other_40_2 : (decode cX11_other 40 = .ok (.iaload, 1)) ∧ (decode cX11_other 41 = .ok (.ishl, 1)) ∧ (decode cX11_other 42 = .ok (.iconst 1, 1)) ∧ (decode cX11_other 43 = .ok (.isub, 1)) ∧ (decode cX11_other 44 = .ok (.ixor, 1)) ∧ (decode cX11_other 45 = .ok (.iastore, 1)) ∧ (decode cX11_other 46 = .ok (.aload_n 0, 1)) ∧ (decode cX11_other 47 = .ok (.aload_n 0, 1)) ∧ (decode cX11_other 48 = .ok (.getfield 16, 3)) ∧ (decode cX11_other 51 = .ok (.iload_n 1, 1)) ∧ (decode cX11_other 52 = .ok (.iaload, 1)) ∧ (decode cX11_other 53 = .ok (.invokestatic 40, 3)) := by decide +kernel
def dX11_other_40 := db_cX11_other_dX11_other_40_2.1
def dX11_other_41 := db_cX11_other_dX11_other_40_2.2.1
def dX11_other_42 := db_cX11_other_dX11_other_40_2.2.2.1
def dX11_other_43 := db_cX11_other_dX11_other_40_2.2.2.2.1
def dX11_other_44 := db_cX11_other_dX11_other_40_2.2.2.2.2.1
def dX11_other_45 := db_cX11_other_dX11_other_40_2.2.2.2.2.2.1
def dX11_other_46 := db_cX11_other_dX11_other_40_2.2.2.2.2.2.2.1
def dX11_other_47 := db_cX11_other_dX11_other_40_2.2.2.2.2.2.2.2.1
def dX11_other_48 := db_cX11_other_dX11_other_40_2.2.2.2.2.2.2.2.2.1
def dX11_other_51 := db_cX11_other_dX11_other_40_2.2.2.2.2.2.2.2.2.2.1
def dX11_other_52 := db_cX11_other_dX11_other_40_2.2.2.2.2.2.2.2.2.2.2.1
def dX11_other_53 := db_cX11_other_dX11_other_40_2.2.2.2.2.2.2.2.2.2.2.2
theorem dX11_other_56 : decode cX11_other 56 = .ok (.invokevirtual 108, 3) := by decide +kernel
theorem dX11_other_59 : decode cX11_other 59 = .ok (.ireturn, 1) := by decide +kernel
set_option maxRecDepth 100000 in
theorem db_cX11_grow_dX11_grow_0_0 : (decode cX11_grow 0 = .ok (.aload_n 0, 1)) ∧ (decode cX11_grow 1 = .ok (.iload_n 1, 1)) ∧ (decode cX11_grow 2 = .ok (.invokestatic 93, 3)) ∧ (decode cX11_grow 5 = .ok (.iconst 1, 1)) ∧ (decode cX11_grow 6 = .ok (.invokevirtual 97, 3)) ∧ (decode cX11_grow 9 = .ok (.ifCond .eq 5, 3)) ∧ (decode cX11_grow 12 = .ok (.iconst 0, 1)) ∧ (decode cX11_grow 13 = .ok (.ireturn, 1)) ∧ (decode cX11_grow 14 = .ok (.aload_n 0, 1)) ∧ (decode cX11_grow 15 = .ok (.getfield 7, 3)) ∧ (decode cX11_grow 18 = .ok (.iload_n 1, 1)) ∧ (decode cX11_grow 19 = .ok (.iaload, 1)) := by decide +kernel
def dX11_grow_0 := db_cX11_grow_dX11_grow_0_0.1
def dX11_grow_1 := db_cX11_grow_dX11_grow_0_0.2.1
def dX11_grow_2 := db_cX11_grow_dX11_grow_0_0.2.2.1
def dX11_grow_5 := db_cX11_grow_dX11_grow_0_0.2.2.2.1
def dX11_grow_6 := db_cX11_grow_dX11_grow_0_0.2.2.2.2.1
def dX11_grow_9 := db_cX11_grow_dX11_grow_0_0.2.2.2.2.2.1
def dX11_grow_12 := db_cX11_grow_dX11_grow_0_0.2.2.2.2.2.2.1
def dX11_grow_13 := db_cX11_grow_dX11_grow_0_0.2.2.2.2.2.2.2.1
def dX11_grow_14 := db_cX11_grow_dX11_grow_0_0.2.2.2.2.2.2.2.2.1
def dX11_grow_15 := db_cX11_grow_dX11_grow_0_0.2.2.2.2.2.2.2.2.2.1
def dX11_grow_18 := db_cX11_grow_dX11_grow_0_0.2.2.2.2.2.2.2.2.2.2.1
def dX11_grow_19 := db_cX11_grow_dX11_grow_0_0.2.2.2.2.2.2.2.2.2.2.2
set_option maxRecDepth 100000 in
theorem db_cX11_grow_dX11_grow_20_1 : (decode cX11_grow 20 = .ok (.bipush 7, 2)) ∧ (decode cX11_grow 22 = .ok (.if_icmp .ne 8, 3)) ∧ (decode cX11_grow 25 = .ok (.aload_n 0, 1)) ∧ (decode cX11_grow 26 = .ok (.invokevirtual 131, 3)) ∧ (decode cX11_grow 29 = .ok (.ireturn, 1)) ∧ (decode cX11_grow 30 = .ok (.aload_n 0, 1)) ∧ (decode cX11_grow 31 = .ok (.getfield 7, 3)) ∧ (decode cX11_grow 34 = .ok (.iload_n 1, 1)) ∧ (decode cX11_grow 35 = .ok (.dup2, 1)) ∧ (decode cX11_grow 36 = .ok (.iaload, 1)) ∧ (decode cX11_grow 37 = .ok (.iconst 1, 1)) ∧ (decode cX11_grow 38 = .ok (.iadd, 1)) := by decide +kernel
def dX11_grow_20 := db_cX11_grow_dX11_grow_20_1.1
def dX11_grow_22 := db_cX11_grow_dX11_grow_20_1.2.1
def dX11_grow_25 := db_cX11_grow_dX11_grow_20_1.2.2.1
def dX11_grow_26 := db_cX11_grow_dX11_grow_20_1.2.2.2.1
def dX11_grow_29 := db_cX11_grow_dX11_grow_20_1.2.2.2.2.1
def dX11_grow_30 := db_cX11_grow_dX11_grow_20_1.2.2.2.2.2.1
def dX11_grow_31 := db_cX11_grow_dX11_grow_20_1.2.2.2.2.2.2.1
def dX11_grow_34 := db_cX11_grow_dX11_grow_20_1.2.2.2.2.2.2.2.1
def dX11_grow_35 := db_cX11_grow_dX11_grow_20_1.2.2.2.2.2.2.2.2.1
def dX11_grow_36 := db_cX11_grow_dX11_grow_20_1.2.2.2.2.2.2.2.2.2.1
def dX11_grow_37 := db_cX11_grow_dX11_grow_20_1.2.2.2.2.2.2.2.2.2.2.1
def dX11_grow_38 := db_cX11_grow_dX11_grow_20_1.2.2.2.2.2.2.2.2.2.2.2
set_option maxRecDepth 100000 in
theorem db_cX11_grow_dX11_grow_39_2 : (decode cX11_grow 39 = .ok (.iastore, 1)) ∧ (decode cX11_grow 40 = .ok (.aload_n 0, 1)) ∧ (decode cX11_grow 41 = .ok (.aload_n 0, 1)) ∧ (decode cX11_grow 42 = .ok (.getfield 7, 3)) ∧ (decode cX11_grow 45 = .ok (.iload_n 1, 1)) ∧ (decode cX11_grow 46 = .ok (.iaload, 1)) ∧ (decode cX11_grow 47 = .ok (.iconst 1, 1)) ∧ (decode cX11_grow 48 = .ok (.isub, 1)) ∧ (decode cX11_grow 49 = .ok (.invokevirtual 108, 3)) ∧ (decode cX11_grow 52 = .ok (.ireturn, 1)) := by decide +kernel
def dX11_grow_39 := db_cX11_grow_dX11_grow_39_2.1
def dX11_grow_40 := db_cX11_grow_dX11_grow_39_2.2.1
def dX11_grow_41 := db_cX11_grow_dX11_grow_39_2.2.2.1
def dX11_grow_42 := db_cX11_grow_dX11_grow_39_2.2.2.2.1
def dX11_grow_45 := db_cX11_grow_dX11_grow_39_2.2.2.2.2.1
def dX11_grow_46 := db_cX11_grow_dX11_grow_39_2.2.2.2.2.2.1
def dX11_grow_47 := db_cX11_grow_dX11_grow_39_2.2.2.2.2.2.2.1
def dX11_grow_48 := db_cX11_grow_dX11_grow_39_2.2.2.2.2.2.2.2.1
def dX11_grow_49 := db_cX11_grow_dX11_grow_39_2.2.2.2.2.2.2.2.2.1
def dX11_grow_52 := db_cX11_grow_dX11_grow_39_2.2.2.2.2.2.2.2.2.2
set_option maxRecDepth 100000 in
theorem db_cX11_without_dX11_without_0_0 : (decode cX11_without 0 = .ok (.iload_n 0, 1)) ∧ (decode cX11_without 1 = .ok (.iconst 1, 1)) ∧ (decode cX11_without 2 = .ok (.iload_n 1, 1)) ∧ (decode cX11_without 3 = .ok (.ishl, 1)) ∧ (decode cX11_without 4 = .ok (.iconst 1, 1)) ∧ (decode cX11_without 5 = .ok (.isub, 1)) ∧ (decode cX11_without 6 = .ok (.iand, 1)) ∧ (decode cX11_without 7 = .ok (.iload_n 0, 1)) ∧ (decode cX11_without 8 = .ok (.iload_n 1, 1)) ∧ (decode cX11_without 9 = .ok (.iconst 1, 1)) ∧ (decode cX11_without 10 = .ok (.iadd, 1)) ∧ (decode cX11_without 11 = .ok (.ishr, 1)) := by decide +kernel
def dX11_without_0 := db_cX11_without_dX11_without_0_0.1
def dX11_without_1 := db_cX11_without_dX11_without_0_0.2.1
def dX11_without_2 := db_cX11_without_dX11_without_0_0.2.2.1
def dX11_without_3 := db_cX11_without_dX11_without_0_0.2.2.2.1
def dX11_without_4 := db_cX11_without_dX11_without_0_0.2.2.2.2.1
def dX11_without_5 := db_cX11_without_dX11_without_0_0.2.2.2.2.2.1
def dX11_without_6 := db_cX11_without_dX11_without_0_0.2.2.2.2.2.2.1
def dX11_without_7 := db_cX11_without_dX11_without_0_0.2.2.2.2.2.2.2.1
def dX11_without_8 := db_cX11_without_dX11_without_0_0.2.2.2.2.2.2.2.2.1
def dX11_without_9 := db_cX11_without_dX11_without_0_0.2.2.2.2.2.2.2.2.2.1
def dX11_without_10 := db_cX11_without_dX11_without_0_0.2.2.2.2.2.2.2.2.2.2.1
def dX11_without_11 := db_cX11_without_dX11_without_0_0.2.2.2.2.2.2.2.2.2.2.2
set_option maxRecDepth 100000 in
theorem db_cX11_without_dX11_without_12_1 : (decode cX11_without 12 = .ok (.iload_n 1, 1)) ∧ (decode cX11_without 13 = .ok (.ishl, 1)) ∧ (decode cX11_without 14 = .ok (.ior, 1)) ∧ (decode cX11_without 15 = .ok (.ireturn, 1)) := by decide +kernel
def dX11_without_12 := db_cX11_without_dX11_without_12_1.1
def dX11_without_13 := db_cX11_without_dX11_without_12_1.2.1
def dX11_without_14 := db_cX11_without_dX11_without_12_1.2.2.1
def dX11_without_15 := db_cX11_without_dX11_without_12_1.2.2.2
set_option maxRecDepth 100000 in
theorem db_cX11_drop_dX11_drop_0_0 : (decode cX11_drop 0 = .ok (.aload_n 0, 1)) ∧ (decode cX11_drop 1 = .ok (.iload_n 1, 1)) ∧ (decode cX11_drop 2 = .ok (.invokestatic 93, 3)) ∧ (decode cX11_drop 5 = .ok (.ifCond .eq 16, 3)) ∧ (decode cX11_drop 8 = .ok (.aload_n 0, 1)) ∧ (decode cX11_drop 9 = .ok (.iload_n 1, 1)) ∧ (decode cX11_drop 10 = .ok (.iload_n 2, 1)) ∧ (decode cX11_drop 11 = .ok (.invokevirtual 111, 3)) ∧ (decode cX11_drop 14 = .ok (.ifCond .eq 7, 3)) ∧ (decode cX11_drop 17 = .ok (.iconst 1, 1)) ∧ (decode cX11_drop 18 = .ok (.goto 4, 3)) ∧ (decode cX11_drop 21 = .ok (.iconst 0, 1)) := by decide +kernel
def dX11_drop_0 := db_cX11_drop_dX11_drop_0_0.1
def dX11_drop_1 := db_cX11_drop_dX11_drop_0_0.2.1
def dX11_drop_2 := db_cX11_drop_dX11_drop_0_0.2.2.1
def dX11_drop_5 := db_cX11_drop_dX11_drop_0_0.2.2.2.1
def dX11_drop_8 := db_cX11_drop_dX11_drop_0_0.2.2.2.2.1
def dX11_drop_9 := db_cX11_drop_dX11_drop_0_0.2.2.2.2.2.1
def dX11_drop_10 := db_cX11_drop_dX11_drop_0_0.2.2.2.2.2.2.1
def dX11_drop_11 := db_cX11_drop_dX11_drop_0_0.2.2.2.2.2.2.2.1
def dX11_drop_14 := db_cX11_drop_dX11_drop_0_0.2.2.2.2.2.2.2.2.1
def dX11_drop_17 := db_cX11_drop_dX11_drop_0_0.2.2.2.2.2.2.2.2.2.1
def dX11_drop_18 := db_cX11_drop_dX11_drop_0_0.2.2.2.2.2.2.2.2.2.2.1
def dX11_drop_21 := db_cX11_drop_dX11_drop_0_0.2.2.2.2.2.2.2.2.2.2.2
set_option maxRecDepth 100000 in
theorem db_cX11_drop_dX11_drop_22_1 : (decode cX11_drop 22 = .ok (.iconst 1, 1)) ∧ (decode cX11_drop 23 = .ok (.invokevirtual 97, 3)) ∧ (decode cX11_drop 26 = .ok (.ifCond .eq 5, 3)) ∧ (decode cX11_drop 29 = .ok (.iconst 0, 1)) ∧ (decode cX11_drop 30 = .ok (.ireturn, 1)) ∧ (decode cX11_drop 31 = .ok (.aload_n 0, 1)) ∧ (decode cX11_drop 32 = .ok (.getfield 7, 3)) ∧ (decode cX11_drop 35 = .ok (.iload_n 1, 1)) ∧ (decode cX11_drop 36 = .ok (.iaload, 1)) ∧ (decode cX11_drop 37 = .ok (.iconst 1, 1)) ∧ (decode cX11_drop 38 = .ok (.if_icmp .ne 8, 3)) ∧ (decode cX11_drop 41 = .ok (.aload_n 0, 1)) := by decide +kernel
def dX11_drop_22 := db_cX11_drop_dX11_drop_22_1.1
def dX11_drop_23 := db_cX11_drop_dX11_drop_22_1.2.1
def dX11_drop_26 := db_cX11_drop_dX11_drop_22_1.2.2.1
def dX11_drop_29 := db_cX11_drop_dX11_drop_22_1.2.2.2.1
def dX11_drop_30 := db_cX11_drop_dX11_drop_22_1.2.2.2.2.1
def dX11_drop_31 := db_cX11_drop_dX11_drop_22_1.2.2.2.2.2.1
def dX11_drop_32 := db_cX11_drop_dX11_drop_22_1.2.2.2.2.2.2.1
def dX11_drop_35 := db_cX11_drop_dX11_drop_22_1.2.2.2.2.2.2.2.1
def dX11_drop_36 := db_cX11_drop_dX11_drop_22_1.2.2.2.2.2.2.2.2.1
def dX11_drop_37 := db_cX11_drop_dX11_drop_22_1.2.2.2.2.2.2.2.2.2.1
def dX11_drop_38 := db_cX11_drop_dX11_drop_22_1.2.2.2.2.2.2.2.2.2.2.1
def dX11_drop_41 := db_cX11_drop_dX11_drop_22_1.2.2.2.2.2.2.2.2.2.2.2
set_option maxRecDepth 100000 in
theorem db_cX11_drop_dX11_drop_42_2 : (decode cX11_drop 42 = .ok (.invokevirtual 131, 3)) ∧ (decode cX11_drop 45 = .ok (.ireturn, 1)) ∧ (decode cX11_drop 46 = .ok (.aload_n 0, 1)) ∧ (decode cX11_drop 47 = .ok (.iload_n 1, 1)) ∧ (decode cX11_drop 48 = .ok (.invokevirtual 101, 3)) ∧ (decode cX11_drop 51 = .ok (.istore_n 3, 1)) ∧ (decode cX11_drop 52 = .ok (.iload_n 1, 1)) ∧ (decode cX11_drop 53 = .ok (.iload_n 2, 1)) ∧ (decode cX11_drop 54 = .ok (.iconst 0, 1)) ∧ (decode cX11_drop 55 = .ok (.invokestatic 36, 3)) ∧ (decode cX11_drop 58 = .ok (.istore 4, 2)) ∧ (decode cX11_drop 60 = .ok (.iload 4, 2)) := by decide +kernel
def dX11_drop_42 := db_cX11_drop_dX11_drop_42_2.1
def dX11_drop_45 := db_cX11_drop_dX11_drop_42_2.2.1
def dX11_drop_46 := db_cX11_drop_dX11_drop_42_2.2.2.1
def dX11_drop_47 := db_cX11_drop_dX11_drop_42_2.2.2.2.1
def dX11_drop_48 := db_cX11_drop_dX11_drop_42_2.2.2.2.2.1
def dX11_drop_51 := db_cX11_drop_dX11_drop_42_2.2.2.2.2.2.1
def dX11_drop_52 := db_cX11_drop_dX11_drop_42_2.2.2.2.2.2.2.1
def dX11_drop_53 := db_cX11_drop_dX11_drop_42_2.2.2.2.2.2.2.2.1
def dX11_drop_54 := db_cX11_drop_dX11_drop_42_2.2.2.2.2.2.2.2.2.1
def dX11_drop_55 := db_cX11_drop_dX11_drop_42_2.2.2.2.2.2.2.2.2.2.1
def dX11_drop_58 := db_cX11_drop_dX11_drop_42_2.2.2.2.2.2.2.2.2.2.2.1
def dX11_drop_60 := db_cX11_drop_dX11_drop_42_2.2.2.2.2.2.2.2.2.2.2.2
set_option maxRecDepth 100000 in
theorem db_cX11_drop_dX11_drop_62_3 : (decode cX11_drop 62 = .ok (.iload_n 1, 1)) ∧ (decode cX11_drop 63 = .ok (.iconst 0, 1)) ∧ (decode cX11_drop 64 = .ok (.iconst 0, 1)) ∧ (decode cX11_drop 65 = .ok (.invokestatic 36, 3)) ∧ (decode cX11_drop 68 = .ok (.bipush 21, 2)) ∧ (decode cX11_drop 70 = .ok (.iadd, 1)) ∧ (decode cX11_drop 71 = .ok (.if_icmp .ge 45, 3)) ∧ (decode cX11_drop 74 = .ok (.aload_n 0, 1)) ∧ (decode cX11_drop 75 = .ok (.getfield 19, 3)) ∧ (decode cX11_drop 78 = .ok (.iload 4, 2)) ∧ (decode cX11_drop 80 = .ok (.iload 4, 2)) ∧ (decode cX11_drop 82 = .ok (.iconst 3, 1)) := by decide +kernel
def dX11_drop_62 := db_cX11_drop_dX11_drop_62_3.1
def dX11_drop_63 := db_cX11_drop_dX11_drop_62_3.2.1
def dX11_drop_64 := db_cX11_drop_dX11_drop_62_3.2.2.1
def dX11_drop_65 := db_cX11_drop_dX11_drop_62_3.2.2.2.1
def dX11_drop_68 := db_cX11_drop_dX11_drop_62_3.2.2.2.2.1
def dX11_drop_70 := db_cX11_drop_dX11_drop_62_3.2.2.2.2.2.1
def dX11_drop_71 := db_cX11_drop_dX11_drop_62_3.2.2.2.2.2.2.1
def dX11_drop_74 := db_cX11_drop_dX11_drop_62_3.2.2.2.2.2.2.2.1
def dX11_drop_75 := db_cX11_drop_dX11_drop_62_3.2.2.2.2.2.2.2.2.1
def dX11_drop_78 := db_cX11_drop_dX11_drop_62_3.2.2.2.2.2.2.2.2.2.1
def dX11_drop_80 := db_cX11_drop_dX11_drop_62_3.2.2.2.2.2.2.2.2.2.2.1
def dX11_drop_82 := db_cX11_drop_dX11_drop_62_3.2.2.2.2.2.2.2.2.2.2.2
set_option maxRecDepth 100000 in
theorem db_cX11_drop_dX11_drop_83_4 : (decode cX11_drop 83 = .ok (.iadd, 1)) ∧ (decode cX11_drop 84 = .ok (.iload_n 1, 1)) ∧ (decode cX11_drop 85 = .ok (.iconst 0, 1)) ∧ (decode cX11_drop 86 = .ok (.iconst 0, 1)) ∧ (decode cX11_drop 87 = .ok (.invokestatic 36, 3)) ∧ (decode cX11_drop 90 = .ok (.bipush 21, 2)) ∧ (decode cX11_drop 92 = .ok (.iadd, 1)) ∧ (decode cX11_drop 93 = .ok (.if_icmp .ge 15, 3)) ∧ (decode cX11_drop 96 = .ok (.aload_n 0, 1)) ∧ (decode cX11_drop 97 = .ok (.getfield 19, 3)) ∧ (decode cX11_drop 100 = .ok (.iload 4, 2)) ∧ (decode cX11_drop 102 = .ok (.iconst 3, 1)) := by decide +kernel
def dX11_drop_83 := db_cX11_drop_dX11_drop_83_4.1
def dX11_drop_84 := db_cX11_drop_dX11_drop_83_4.2.1
def dX11_drop_85 := db_cX11_drop_dX11_drop_83_4.2.2.1
def dX11_drop_86 := db_cX11_drop_dX11_drop_83_4.2.2.2.1
def dX11_drop_87 := db_cX11_drop_dX11_drop_83_4.2.2.2.2.1
def dX11_drop_90 := db_cX11_drop_dX11_drop_83_4.2.2.2.2.2.1
def dX11_drop_92 := db_cX11_drop_dX11_drop_83_4.2.2.2.2.2.2.1
def dX11_drop_93 := db_cX11_drop_dX11_drop_83_4.2.2.2.2.2.2.2.1
def dX11_drop_96 := db_cX11_drop_dX11_drop_83_4.2.2.2.2.2.2.2.2.1
def dX11_drop_97 := db_cX11_drop_dX11_drop_83_4.2.2.2.2.2.2.2.2.2.1
def dX11_drop_100 := db_cX11_drop_dX11_drop_83_4.2.2.2.2.2.2.2.2.2.2.1
def dX11_drop_102 := db_cX11_drop_dX11_drop_83_4.2.2.2.2.2.2.2.2.2.2.2
set_option maxRecDepth 100000 in
theorem db_cX11_drop_dX11_drop_103_5 : (decode cX11_drop 103 = .ok (.iadd, 1)) ∧ (decode cX11_drop 104 = .ok (.iaload, 1)) ∧ (decode cX11_drop 105 = .ok (.goto 4, 3)) ∧ (decode cX11_drop 108 = .ok (.iconst 0, 1)) ∧ (decode cX11_drop 109 = .ok (.iastore, 1)) ∧ (decode cX11_drop 110 = .ok (.iinc 4 1, 3)) ∧ (decode cX11_drop 113 = .ok (.goto (-53), 3)) ∧ (decode cX11_drop 116 = .ok (.iconst 0, 1)) ∧ (decode cX11_drop 117 = .ok (.istore 4, 2)) ∧ (decode cX11_drop 119 = .ok (.iload 4, 2)) ∧ (decode cX11_drop 121 = .ok (.bipush 21, 2)) ∧ (decode cX11_drop 123 = .ok (.if_icmp .ge 41, 3)) := by decide +kernel
def dX11_drop_103 := db_cX11_drop_dX11_drop_103_5.1
def dX11_drop_104 := db_cX11_drop_dX11_drop_103_5.2.1
def dX11_drop_105 := db_cX11_drop_dX11_drop_103_5.2.2.1
def dX11_drop_108 := db_cX11_drop_dX11_drop_103_5.2.2.2.1
def dX11_drop_109 := db_cX11_drop_dX11_drop_103_5.2.2.2.2.1
def dX11_drop_110 := db_cX11_drop_dX11_drop_103_5.2.2.2.2.2.1
def dX11_drop_113 := db_cX11_drop_dX11_drop_103_5.2.2.2.2.2.2.1
def dX11_drop_116 := db_cX11_drop_dX11_drop_103_5.2.2.2.2.2.2.2.1
def dX11_drop_117 := db_cX11_drop_dX11_drop_103_5.2.2.2.2.2.2.2.2.1
def dX11_drop_119 := db_cX11_drop_dX11_drop_103_5.2.2.2.2.2.2.2.2.2.1
def dX11_drop_121 := db_cX11_drop_dX11_drop_103_5.2.2.2.2.2.2.2.2.2.2.1
def dX11_drop_123 := db_cX11_drop_dX11_drop_103_5.2.2.2.2.2.2.2.2.2.2.2
set_option maxRecDepth 100000 in
theorem db_cX11_drop_dX11_drop_126_6 : (decode cX11_drop 126 = .ok (.aload_n 0, 1)) ∧ (decode cX11_drop 127 = .ok (.getfield 19, 3)) ∧ (decode cX11_drop 130 = .ok (.iload_n 1, 1)) ∧ (decode cX11_drop 131 = .ok (.iconst 0, 1)) ∧ (decode cX11_drop 132 = .ok (.iconst 0, 1)) ∧ (decode cX11_drop 133 = .ok (.invokestatic 36, 3)) ∧ (decode cX11_drop 136 = .ok (.iload 4, 2)) ∧ (decode cX11_drop 138 = .ok (.iadd, 1)) ∧ (decode cX11_drop 139 = .ok (.aload_n 0, 1)) ∧ (decode cX11_drop 140 = .ok (.getfield 19, 3)) ∧ (decode cX11_drop 143 = .ok (.iload_n 1, 1)) ∧ (decode cX11_drop 144 = .ok (.iconst 0, 1)) := by decide +kernel
def dX11_drop_126 := db_cX11_drop_dX11_drop_126_6.1
def dX11_drop_127 := db_cX11_drop_dX11_drop_126_6.2.1
def dX11_drop_130 := db_cX11_drop_dX11_drop_126_6.2.2.1
def dX11_drop_131 := db_cX11_drop_dX11_drop_126_6.2.2.2.1
def dX11_drop_132 := db_cX11_drop_dX11_drop_126_6.2.2.2.2.1
def dX11_drop_133 := db_cX11_drop_dX11_drop_126_6.2.2.2.2.2.1
def dX11_drop_136 := db_cX11_drop_dX11_drop_126_6.2.2.2.2.2.2.1
def dX11_drop_138 := db_cX11_drop_dX11_drop_126_6.2.2.2.2.2.2.2.1
def dX11_drop_139 := db_cX11_drop_dX11_drop_126_6.2.2.2.2.2.2.2.2.1
def dX11_drop_140 := db_cX11_drop_dX11_drop_126_6.2.2.2.2.2.2.2.2.2.1
def dX11_drop_143 := db_cX11_drop_dX11_drop_126_6.2.2.2.2.2.2.2.2.2.2.1
def dX11_drop_144 := db_cX11_drop_dX11_drop_126_6.2.2.2.2.2.2.2.2.2.2.2
set_option maxRecDepth 100000 in
theorem db_cX11_drop_dX11_drop_145_7 : (decode cX11_drop 145 = .ok (.iconst 0, 1)) ∧ (decode cX11_drop 146 = .ok (.invokestatic 36, 3)) ∧ (decode cX11_drop 149 = .ok (.iload 4, 2)) ∧ (decode cX11_drop 151 = .ok (.iadd, 1)) ∧ (decode cX11_drop 152 = .ok (.iaload, 1)) ∧ (decode cX11_drop 153 = .ok (.iload_n 2, 1)) ∧ (decode cX11_drop 154 = .ok (.invokestatic 135, 3)) ∧ (decode cX11_drop 157 = .ok (.iastore, 1)) ∧ (decode cX11_drop 158 = .ok (.iinc 4 1, 3)) ∧ (decode cX11_drop 161 = .ok (.goto (-42), 3)) ∧ (decode cX11_drop 164 = .ok (.aload_n 0, 1)) ∧ (decode cX11_drop 165 = .ok (.getfield 13, 3)) := by decide +kernel
def dX11_drop_145 := db_cX11_drop_dX11_drop_145_7.1
def dX11_drop_146 := db_cX11_drop_dX11_drop_145_7.2.1
def dX11_drop_149 := db_cX11_drop_dX11_drop_145_7.2.2.1
def dX11_drop_151 := db_cX11_drop_dX11_drop_145_7.2.2.2.1
def dX11_drop_152 := db_cX11_drop_dX11_drop_145_7.2.2.2.2.1
def dX11_drop_153 := db_cX11_drop_dX11_drop_145_7.2.2.2.2.2.1
def dX11_drop_154 := db_cX11_drop_dX11_drop_145_7.2.2.2.2.2.2.1
def dX11_drop_157 := db_cX11_drop_dX11_drop_145_7.2.2.2.2.2.2.2.1
def dX11_drop_158 := db_cX11_drop_dX11_drop_145_7.2.2.2.2.2.2.2.2.1
def dX11_drop_161 := db_cX11_drop_dX11_drop_145_7.2.2.2.2.2.2.2.2.2.1
def dX11_drop_164 := db_cX11_drop_dX11_drop_145_7.2.2.2.2.2.2.2.2.2.2.1
def dX11_drop_165 := db_cX11_drop_dX11_drop_145_7.2.2.2.2.2.2.2.2.2.2.2
set_option maxRecDepth 100000 in
theorem db_cX11_drop_dX11_drop_168_8 : (decode cX11_drop 168 = .ok (.iload_n 1, 1)) ∧ (decode cX11_drop 169 = .ok (.aload_n 0, 1)) ∧ (decode cX11_drop 170 = .ok (.getfield 13, 3)) ∧ (decode cX11_drop 173 = .ok (.iload_n 1, 1)) ∧ (decode cX11_drop 174 = .ok (.iaload, 1)) ∧ (decode cX11_drop 175 = .ok (.iload_n 2, 1)) ∧ (decode cX11_drop 176 = .ok (.invokestatic 135, 3)) ∧ (decode cX11_drop 179 = .ok (.iastore, 1)) ∧ (decode cX11_drop 180 = .ok (.aload_n 0, 1)) ∧ (decode cX11_drop 181 = .ok (.getfield 16, 3)) ∧ (decode cX11_drop 184 = .ok (.iload_n 1, 1)) ∧ (decode cX11_drop 185 = .ok (.aload_n 0, 1)) := by decide +kernel
def dX11_drop_168 := db_cX11_drop_dX11_drop_168_8.1
def dX11_drop_169 := db_cX11_drop_dX11_drop_168_8.2.1
def dX11_drop_170 := db_cX11_drop_dX11_drop_168_8.2.2.1
def dX11_drop_173 := db_cX11_drop_dX11_drop_168_8.2.2.2.1
def dX11_drop_174 := db_cX11_drop_dX11_drop_168_8.2.2.2.2.1
def dX11_drop_175 := db_cX11_drop_dX11_drop_168_8.2.2.2.2.2.1
def dX11_drop_176 := db_cX11_drop_dX11_drop_168_8.2.2.2.2.2.2.1
def dX11_drop_179 := db_cX11_drop_dX11_drop_168_8.2.2.2.2.2.2.2.1
def dX11_drop_180 := db_cX11_drop_dX11_drop_168_8.2.2.2.2.2.2.2.2.1
def dX11_drop_181 := db_cX11_drop_dX11_drop_168_8.2.2.2.2.2.2.2.2.2.1
def dX11_drop_184 := db_cX11_drop_dX11_drop_168_8.2.2.2.2.2.2.2.2.2.2.1
def dX11_drop_185 := db_cX11_drop_dX11_drop_168_8.2.2.2.2.2.2.2.2.2.2.2
set_option maxRecDepth 100000 in
theorem db_cX11_drop_dX11_drop_186_9 : (decode cX11_drop 186 = .ok (.getfield 16, 3)) ∧ (decode cX11_drop 189 = .ok (.iload_n 1, 1)) ∧ (decode cX11_drop 190 = .ok (.iaload, 1)) ∧ (decode cX11_drop 191 = .ok (.iload_n 2, 1)) ∧ (decode cX11_drop 192 = .ok (.invokestatic 135, 3)) ∧ (decode cX11_drop 195 = .ok (.iastore, 1)) ∧ (decode cX11_drop 196 = .ok (.aload_n 0, 1)) ∧ (decode cX11_drop 197 = .ok (.getfield 7, 3)) ∧ (decode cX11_drop 200 = .ok (.iload_n 1, 1)) ∧ (decode cX11_drop 201 = .ok (.dup2, 1)) ∧ (decode cX11_drop 202 = .ok (.iaload, 1)) ∧ (decode cX11_drop 203 = .ok (.iconst 1, 1)) := by decide +kernel
def dX11_drop_186 := db_cX11_drop_dX11_drop_186_9.1
def dX11_drop_189 := db_cX11_drop_dX11_drop_186_9.2.1
def dX11_drop_190 := db_cX11_drop_dX11_drop_186_9.2.2.1
def dX11_drop_191 := db_cX11_drop_dX11_drop_186_9.2.2.2.1
def dX11_drop_192 := db_cX11_drop_dX11_drop_186_9.2.2.2.2.1
def dX11_drop_195 := db_cX11_drop_dX11_drop_186_9.2.2.2.2.2.1
def dX11_drop_196 := db_cX11_drop_dX11_drop_186_9.2.2.2.2.2.2.1
def dX11_drop_197 := db_cX11_drop_dX11_drop_186_9.2.2.2.2.2.2.2.1
def dX11_drop_200 := db_cX11_drop_dX11_drop_186_9.2.2.2.2.2.2.2.2.1
def dX11_drop_201 := db_cX11_drop_dX11_drop_186_9.2.2.2.2.2.2.2.2.2.1
def dX11_drop_202 := db_cX11_drop_dX11_drop_186_9.2.2.2.2.2.2.2.2.2.2.1
def dX11_drop_203 := db_cX11_drop_dX11_drop_186_9.2.2.2.2.2.2.2.2.2.2.2
set_option maxRecDepth 100000 in
theorem db_cX11_drop_dX11_drop_204_10 : (decode cX11_drop 204 = .ok (.isub, 1)) ∧ (decode cX11_drop 205 = .ok (.iastore, 1)) ∧ (decode cX11_drop 206 = .ok (.aload_n 0, 1)) ∧ (decode cX11_drop 207 = .ok (.iload_n 3, 1)) ∧ (decode cX11_drop 208 = .ok (.aload_n 0, 1)) ∧ (decode cX11_drop 209 = .ok (.iload_n 1, 1)) ∧ (decode cX11_drop 210 = .ok (.invokevirtual 101, 3)) ∧ (decode cX11_drop 213 = .ok (.isub, 1)) ∧ (decode cX11_drop 214 = .ok (.invokevirtual 108, 3)) ∧ (decode cX11_drop 217 = .ok (.ireturn, 1)) := by decide +kernel
def dX11_drop_204 := db_cX11_drop_dX11_drop_204_10.1
def dX11_drop_205 := db_cX11_drop_dX11_drop_204_10.2.1
def dX11_drop_206 := db_cX11_drop_dX11_drop_204_10.2.2.1
def dX11_drop_207 := db_cX11_drop_dX11_drop_204_10.2.2.2.1
def dX11_drop_208 := db_cX11_drop_dX11_drop_204_10.2.2.2.2.1
def dX11_drop_209 := db_cX11_drop_dX11_drop_204_10.2.2.2.2.2.1
def dX11_drop_210 := db_cX11_drop_dX11_drop_204_10.2.2.2.2.2.2.1
def dX11_drop_213 := db_cX11_drop_dX11_drop_204_10.2.2.2.2.2.2.2.1
def dX11_drop_214 := db_cX11_drop_dX11_drop_204_10.2.2.2.2.2.2.2.2.1
def dX11_drop_217 := db_cX11_drop_dX11_drop_204_10.2.2.2.2.2.2.2.2.2
set_option maxRecDepth 100000 in
theorem db_cX11_become_dX11_become_0_0 : (decode cX11_become 0 = .ok (.aload_n 2, 1)) ∧ (decode cX11_become 1 = .ok (.ifnull 10, 3)) ∧ (decode cX11_become 4 = .ok (.aload_n 2, 1)) ∧ (decode cX11_become 5 = .ok (.arraylength, 1)) ∧ (decode cX11_become 6 = .ok (.bipush 28, 2)) ∧ (decode cX11_become 8 = .ok (.if_icmp .le 8, 3)) ∧ (decode cX11_become 11 = .ok (.aload_n 0, 1)) ∧ (decode cX11_become 12 = .ok (.invokevirtual 131, 3)) ∧ (decode cX11_become 15 = .ok (.ireturn, 1)) ∧ (decode cX11_become 16 = .ok (.aload_n 0, 1)) ∧ (decode cX11_become 17 = .ok (.iload_n 1, 1)) ∧ (decode cX11_become 18 = .ok (.aload_n 2, 1)) := by decide +kernel
def dX11_become_0 := db_cX11_become_dX11_become_0_0.1
def dX11_become_1 := db_cX11_become_dX11_become_0_0.2.1
def dX11_become_4 := db_cX11_become_dX11_become_0_0.2.2.1
def dX11_become_5 := db_cX11_become_dX11_become_0_0.2.2.2.1
def dX11_become_6 := db_cX11_become_dX11_become_0_0.2.2.2.2.1
def dX11_become_8 := db_cX11_become_dX11_become_0_0.2.2.2.2.2.1
def dX11_become_11 := db_cX11_become_dX11_become_0_0.2.2.2.2.2.2.1
def dX11_become_12 := db_cX11_become_dX11_become_0_0.2.2.2.2.2.2.2.1
def dX11_become_15 := db_cX11_become_dX11_become_0_0.2.2.2.2.2.2.2.2.1
def dX11_become_16 := db_cX11_become_dX11_become_0_0.2.2.2.2.2.2.2.2.2.1
def dX11_become_17 := db_cX11_become_dX11_become_0_0.2.2.2.2.2.2.2.2.2.2.1
def dX11_become_18 := db_cX11_become_dX11_become_0_0.2.2.2.2.2.2.2.2.2.2.2
set_option maxRecDepth 100000 in
theorem db_cX11_become_dX11_become_19_1 : (decode cX11_become 19 = .ok (.arraylength, 1)) ∧ (decode cX11_become 20 = .ok (.iconst 4, 1)) ∧ (decode cX11_become 21 = .ok (.idiv, 1)) ∧ (decode cX11_become 22 = .ok (.invokevirtual 104, 3)) ∧ (decode cX11_become 25 = .ok (.iconst 0, 1)) ∧ (decode cX11_become 26 = .ok (.istore_n 3, 1)) ∧ (decode cX11_become 27 = .ok (.iload_n 3, 1)) ∧ (decode cX11_become 28 = .ok (.aload_n 0, 1)) ∧ (decode cX11_become 29 = .ok (.getfield 7, 3)) ∧ (decode cX11_become 32 = .ok (.iload_n 1, 1)) ∧ (decode cX11_become 33 = .ok (.iaload, 1)) ∧ (decode cX11_become 34 = .ok (.if_icmp .ge 64, 3)) := by decide +kernel
def dX11_become_19 := db_cX11_become_dX11_become_19_1.1
def dX11_become_20 := db_cX11_become_dX11_become_19_1.2.1
def dX11_become_21 := db_cX11_become_dX11_become_19_1.2.2.1
def dX11_become_22 := db_cX11_become_dX11_become_19_1.2.2.2.1
def dX11_become_25 := db_cX11_become_dX11_become_19_1.2.2.2.2.1
def dX11_become_26 := db_cX11_become_dX11_become_19_1.2.2.2.2.2.1
def dX11_become_27 := db_cX11_become_dX11_become_19_1.2.2.2.2.2.2.1
def dX11_become_28 := db_cX11_become_dX11_become_19_1.2.2.2.2.2.2.2.1
def dX11_become_29 := db_cX11_become_dX11_become_19_1.2.2.2.2.2.2.2.2.1
def dX11_become_32 := db_cX11_become_dX11_become_19_1.2.2.2.2.2.2.2.2.2.1
def dX11_become_33 := db_cX11_become_dX11_become_19_1.2.2.2.2.2.2.2.2.2.2.1
def dX11_become_34 := db_cX11_become_dX11_become_19_1.2.2.2.2.2.2.2.2.2.2.2
set_option maxRecDepth 100000 in
theorem db_cX11_become_dX11_become_37_2 : (decode cX11_become 37 = .ok (.aload_n 0, 1)) ∧ (decode cX11_become 38 = .ok (.getfield 16, 3)) ∧ (decode cX11_become 41 = .ok (.iload_n 1, 1)) ∧ (decode cX11_become 42 = .ok (.dup2, 1)) ∧ (decode cX11_become 43 = .ok (.iaload, 1)) ∧ (decode cX11_become 44 = .ok (.aload_n 2, 1)) ∧ (decode cX11_become 45 = .ok (.iconst 4, 1)) ∧ (decode cX11_become 46 = .ok (.iload_n 3, 1)) ∧ (decode cX11_become 47 = .ok (.imul, 1)) ∧ (decode cX11_become 48 = .ok (.iconst 3, 1)) ∧ (decode cX11_become 49 = .ok (.iadd, 1)) ∧ (decode cX11_become 50 = .ok (.iaload, 1)) := by decide +kernel
def dX11_become_37 := db_cX11_become_dX11_become_37_2.1
def dX11_become_38 := db_cX11_become_dX11_become_37_2.2.1
def dX11_become_41 := db_cX11_become_dX11_become_37_2.2.2.1
def dX11_become_42 := db_cX11_become_dX11_become_37_2.2.2.2.1
def dX11_become_43 := db_cX11_become_dX11_become_37_2.2.2.2.2.1
def dX11_become_44 := db_cX11_become_dX11_become_37_2.2.2.2.2.2.1
def dX11_become_45 := db_cX11_become_dX11_become_37_2.2.2.2.2.2.2.1
def dX11_become_46 := db_cX11_become_dX11_become_37_2.2.2.2.2.2.2.2.1
def dX11_become_47 := db_cX11_become_dX11_become_37_2.2.2.2.2.2.2.2.2.1
def dX11_become_48 := db_cX11_become_dX11_become_37_2.2.2.2.2.2.2.2.2.2.1
def dX11_become_49 := db_cX11_become_dX11_become_37_2.2.2.2.2.2.2.2.2.2.2.1
def dX11_become_50 := db_cX11_become_dX11_become_37_2.2.2.2.2.2.2.2.2.2.2.2
set_option maxRecDepth 100000 in
theorem db_cX11_become_dX11_become_51_3 : (decode cX11_become 51 = .ok (.iload_n 3, 1)) ∧ (decode cX11_become 52 = .ok (.ishl, 1)) ∧ (decode cX11_become 53 = .ok (.ior, 1)) ∧ (decode cX11_become 54 = .ok (.iastore, 1)) ∧ (decode cX11_become 55 = .ok (.iconst 0, 1)) ∧ (decode cX11_become 56 = .ok (.istore 4, 2)) ∧ (decode cX11_become 58 = .ok (.iload 4, 2)) ∧ (decode cX11_become 60 = .ok (.iconst 3, 1)) ∧ (decode cX11_become 61 = .ok (.if_icmp .ge 31, 3)) ∧ (decode cX11_become 64 = .ok (.aload_n 0, 1)) ∧ (decode cX11_become 65 = .ok (.getfield 19, 3)) ∧ (decode cX11_become 68 = .ok (.iload_n 1, 1)) := by decide +kernel
def dX11_become_51 := db_cX11_become_dX11_become_51_3.1
def dX11_become_52 := db_cX11_become_dX11_become_51_3.2.1
def dX11_become_53 := db_cX11_become_dX11_become_51_3.2.2.1
def dX11_become_54 := db_cX11_become_dX11_become_51_3.2.2.2.1
def dX11_become_55 := db_cX11_become_dX11_become_51_3.2.2.2.2.1
def dX11_become_56 := db_cX11_become_dX11_become_51_3.2.2.2.2.2.1
def dX11_become_58 := db_cX11_become_dX11_become_51_3.2.2.2.2.2.2.1
def dX11_become_60 := db_cX11_become_dX11_become_51_3.2.2.2.2.2.2.2.1
def dX11_become_61 := db_cX11_become_dX11_become_51_3.2.2.2.2.2.2.2.2.1
def dX11_become_64 := db_cX11_become_dX11_become_51_3.2.2.2.2.2.2.2.2.2.1
def dX11_become_65 := db_cX11_become_dX11_become_51_3.2.2.2.2.2.2.2.2.2.2.1
def dX11_become_68 := db_cX11_become_dX11_become_51_3.2.2.2.2.2.2.2.2.2.2.2
set_option maxRecDepth 100000 in
theorem db_cX11_become_dX11_become_69_4 : (decode cX11_become 69 = .ok (.iload_n 3, 1)) ∧ (decode cX11_become 70 = .ok (.iload 4, 2)) ∧ (decode cX11_become 72 = .ok (.invokestatic 36, 3)) ∧ (decode cX11_become 75 = .ok (.iconst 1, 1)) ∧ (decode cX11_become 76 = .ok (.aload_n 2, 1)) ∧ (decode cX11_become 77 = .ok (.iconst 4, 1)) ∧ (decode cX11_become 78 = .ok (.iload_n 3, 1)) ∧ (decode cX11_become 79 = .ok (.imul, 1)) ∧ (decode cX11_become 80 = .ok (.iload 4, 2)) ∧ (decode cX11_become 82 = .ok (.iadd, 1)) ∧ (decode cX11_become 83 = .ok (.iaload, 1)) ∧ (decode cX11_become 84 = .ok (.ishl, 1)) := by decide +kernel
def dX11_become_69 := db_cX11_become_dX11_become_69_4.1
def dX11_become_70 := db_cX11_become_dX11_become_69_4.2.1
def dX11_become_72 := db_cX11_become_dX11_become_69_4.2.2.1
def dX11_become_75 := db_cX11_become_dX11_become_69_4.2.2.2.1
def dX11_become_76 := db_cX11_become_dX11_become_69_4.2.2.2.2.1
def dX11_become_77 := db_cX11_become_dX11_become_69_4.2.2.2.2.2.1
def dX11_become_78 := db_cX11_become_dX11_become_69_4.2.2.2.2.2.2.1
def dX11_become_79 := db_cX11_become_dX11_become_69_4.2.2.2.2.2.2.2.1
def dX11_become_80 := db_cX11_become_dX11_become_69_4.2.2.2.2.2.2.2.2.1
def dX11_become_82 := db_cX11_become_dX11_become_69_4.2.2.2.2.2.2.2.2.2.1
def dX11_become_83 := db_cX11_become_dX11_become_69_4.2.2.2.2.2.2.2.2.2.2.1
def dX11_become_84 := db_cX11_become_dX11_become_69_4.2.2.2.2.2.2.2.2.2.2.2
set_option maxRecDepth 100000 in
theorem db_cX11_become_dX11_become_85_5 : (decode cX11_become 85 = .ok (.iastore, 1)) ∧ (decode cX11_become 86 = .ok (.iinc 4 1, 3)) ∧ (decode cX11_become 89 = .ok (.goto (-31), 3)) ∧ (decode cX11_become 92 = .ok (.iinc 3 1, 3)) ∧ (decode cX11_become 95 = .ok (.goto (-68), 3)) ∧ (decode cX11_become 98 = .ok (.aload_n 0, 1)) ∧ (decode cX11_become 99 = .ok (.aload_n 0, 1)) ∧ (decode cX11_become 100 = .ok (.getfield 7, 3)) ∧ (decode cX11_become 103 = .ok (.iload_n 1, 1)) ∧ (decode cX11_become 104 = .ok (.iaload, 1)) ∧ (decode cX11_become 105 = .ok (.invokevirtual 108, 3)) ∧ (decode cX11_become 108 = .ok (.ireturn, 1)) := by decide +kernel
def dX11_become_85 := db_cX11_become_dX11_become_85_5.1
def dX11_become_86 := db_cX11_become_dX11_become_85_5.2.1
def dX11_become_89 := db_cX11_become_dX11_become_85_5.2.2.1
def dX11_become_92 := db_cX11_become_dX11_become_85_5.2.2.2.1
def dX11_become_95 := db_cX11_become_dX11_become_85_5.2.2.2.2.1
def dX11_become_98 := db_cX11_become_dX11_become_85_5.2.2.2.2.2.1
def dX11_become_99 := db_cX11_become_dX11_become_85_5.2.2.2.2.2.2.1
def dX11_become_100 := db_cX11_become_dX11_become_85_5.2.2.2.2.2.2.2.1
def dX11_become_103 := db_cX11_become_dX11_become_85_5.2.2.2.2.2.2.2.2.1
def dX11_become_104 := db_cX11_become_dX11_become_85_5.2.2.2.2.2.2.2.2.2.1
def dX11_become_105 := db_cX11_become_dX11_become_85_5.2.2.2.2.2.2.2.2.2.2.1
def dX11_become_108 := db_cX11_become_dX11_become_85_5.2.2.2.2.2.2.2.2.2.2.2
set_option maxRecDepth 100000 in
theorem db_cX11_make_dX11_make_0_0 : (decode cX11_make 0 = .ok (.aload_n 0, 1)) ∧ (decode cX11_make 1 = .ok (.iload_n 1, 1)) ∧ (decode cX11_make 2 = .ok (.invokestatic 93, 3)) ∧ (decode cX11_make 5 = .ok (.ifCond .eq 14, 3)) ∧ (decode cX11_make 8 = .ok (.iload_n 3, 1)) ∧ (decode cX11_make 9 = .ok (.invokestatic 93, 3)) ∧ (decode cX11_make 12 = .ok (.ifCond .eq 7, 3)) ∧ (decode cX11_make 15 = .ok (.iconst 1, 1)) ∧ (decode cX11_make 16 = .ok (.goto 4, 3)) ∧ (decode cX11_make 19 = .ok (.iconst 0, 1)) ∧ (decode cX11_make 20 = .ok (.iconst 1, 1)) ∧ (decode cX11_make 21 = .ok (.invokevirtual 97, 3)) := by decide +kernel
def dX11_make_0 := db_cX11_make_dX11_make_0_0.1
def dX11_make_1 := db_cX11_make_dX11_make_0_0.2.1
def dX11_make_2 := db_cX11_make_dX11_make_0_0.2.2.1
def dX11_make_5 := db_cX11_make_dX11_make_0_0.2.2.2.1
def dX11_make_8 := db_cX11_make_dX11_make_0_0.2.2.2.2.1
def dX11_make_9 := db_cX11_make_dX11_make_0_0.2.2.2.2.2.1
def dX11_make_12 := db_cX11_make_dX11_make_0_0.2.2.2.2.2.2.1
def dX11_make_15 := db_cX11_make_dX11_make_0_0.2.2.2.2.2.2.2.1
def dX11_make_16 := db_cX11_make_dX11_make_0_0.2.2.2.2.2.2.2.2.1
def dX11_make_19 := db_cX11_make_dX11_make_0_0.2.2.2.2.2.2.2.2.2.1
def dX11_make_20 := db_cX11_make_dX11_make_0_0.2.2.2.2.2.2.2.2.2.2.1
def dX11_make_21 := db_cX11_make_dX11_make_0_0.2.2.2.2.2.2.2.2.2.2.2
set_option maxRecDepth 100000 in
theorem db_cX11_make_dX11_make_24_1 : (decode cX11_make 24 = .ok (.ifCond .eq 7, 3)) ∧ (decode cX11_make 27 = .ok (.iconst 0, 1)) ∧ (decode cX11_make 28 = .ok (.goto 22, 3)) ∧ (decode cX11_make 31 = .ok (.aload_n 0, 1)) ∧ (decode cX11_make 32 = .ok (.iload_n 3, 1)) ∧ (decode cX11_make 33 = .ok (.aload_n 0, 1)) ∧ (decode cX11_make 34 = .ok (.iload_n 1, 1)) ∧ (decode cX11_make 35 = .ok (.iload_n 2, 1)) ∧ (decode cX11_make 36 = .ok (.ifCond .eq 7, 3)) ∧ (decode cX11_make 39 = .ok (.iconst 0, 1)) ∧ (decode cX11_make 40 = .ok (.goto 4, 3)) ∧ (decode cX11_make 43 = .ok (.iconst 3, 1)) := by decide +kernel
def dX11_make_24 := db_cX11_make_dX11_make_24_1.1
def dX11_make_27 := db_cX11_make_dX11_make_24_1.2.1
def dX11_make_28 := db_cX11_make_dX11_make_24_1.2.2.1
def dX11_make_31 := db_cX11_make_dX11_make_24_1.2.2.2.1
def dX11_make_32 := db_cX11_make_dX11_make_24_1.2.2.2.2.1
def dX11_make_33 := db_cX11_make_dX11_make_24_1.2.2.2.2.2.1
def dX11_make_34 := db_cX11_make_dX11_make_24_1.2.2.2.2.2.2.1
def dX11_make_35 := db_cX11_make_dX11_make_24_1.2.2.2.2.2.2.2.1
def dX11_make_36 := db_cX11_make_dX11_make_24_1.2.2.2.2.2.2.2.2.1
def dX11_make_39 := db_cX11_make_dX11_make_24_1.2.2.2.2.2.2.2.2.2.1
def dX11_make_40 := db_cX11_make_dX11_make_24_1.2.2.2.2.2.2.2.2.2.2.1
def dX11_make_43 := db_cX11_make_dX11_make_24_1.2.2.2.2.2.2.2.2.2.2.2
set_option maxRecDepth 100000 in
theorem db_cX11_make_dX11_make_44_2 : (decode cX11_make 44 = .ok (.invokevirtual 138, 3)) ∧ (decode cX11_make 47 = .ok (.invokevirtual 142, 3)) ∧ (decode cX11_make 50 = .ok (.ireturn, 1)) := by decide +kernel
def dX11_make_44 := db_cX11_make_dX11_make_44_2.1
def dX11_make_47 := db_cX11_make_dX11_make_44_2.2.1
def dX11_make_50 := db_cX11_make_dX11_make_44_2.2.2
set_option maxRecDepth 100000 in
theorem db_cX11_combine_dX11_combine_0_0 : (decode cX11_combine 0 = .ok (.aload_n 0, 1)) ∧ (decode cX11_combine 1 = .ok (.iload_n 1, 1)) ∧ (decode cX11_combine 2 = .ok (.invokestatic 93, 3)) ∧ (decode cX11_combine 5 = .ok (.ifCond .eq 22, 3)) ∧ (decode cX11_combine 8 = .ok (.iload_n 2, 1)) ∧ (decode cX11_combine 9 = .ok (.invokestatic 93, 3)) ∧ (decode cX11_combine 12 = .ok (.ifCond .eq 15, 3)) ∧ (decode cX11_combine 15 = .ok (.iload 4, 2)) ∧ (decode cX11_combine 17 = .ok (.invokestatic 93, 3)) ∧ (decode cX11_combine 20 = .ok (.ifCond .eq 7, 3)) ∧ (decode cX11_combine 23 = .ok (.iconst 1, 1)) ∧ (decode cX11_combine 24 = .ok (.goto 4, 3)) := by decide +kernel
def dX11_combine_0 := db_cX11_combine_dX11_combine_0_0.1
def dX11_combine_1 := db_cX11_combine_dX11_combine_0_0.2.1
def dX11_combine_2 := db_cX11_combine_dX11_combine_0_0.2.2.1
def dX11_combine_5 := db_cX11_combine_dX11_combine_0_0.2.2.2.1
def dX11_combine_8 := db_cX11_combine_dX11_combine_0_0.2.2.2.2.1
def dX11_combine_9 := db_cX11_combine_dX11_combine_0_0.2.2.2.2.2.1
def dX11_combine_12 := db_cX11_combine_dX11_combine_0_0.2.2.2.2.2.2.1
def dX11_combine_15 := db_cX11_combine_dX11_combine_0_0.2.2.2.2.2.2.2.1
def dX11_combine_17 := db_cX11_combine_dX11_combine_0_0.2.2.2.2.2.2.2.2.1
def dX11_combine_20 := db_cX11_combine_dX11_combine_0_0.2.2.2.2.2.2.2.2.2.1
def dX11_combine_23 := db_cX11_combine_dX11_combine_0_0.2.2.2.2.2.2.2.2.2.2.1
def dX11_combine_24 := db_cX11_combine_dX11_combine_0_0.2.2.2.2.2.2.2.2.2.2.2
set_option maxRecDepth 100000 in
theorem db_cX11_combine_dX11_combine_27_1 : (decode cX11_combine 27 = .ok (.iconst 0, 1)) ∧ (decode cX11_combine 28 = .ok (.iload_n 3, 1)) ∧ (decode cX11_combine 29 = .ok (.iconst 0, 1)) ∧ (decode cX11_combine 30 = .ok (.iconst 3, 1)) ∧ (decode cX11_combine 31 = .ok (.invokestatic 26, 3)) ∧ (decode cX11_combine 34 = .ok (.invokevirtual 97, 3)) ∧ (decode cX11_combine 37 = .ok (.ifCond .eq 7, 3)) ∧ (decode cX11_combine 40 = .ok (.iconst 0, 1)) ∧ (decode cX11_combine 41 = .ok (.goto 19, 3)) ∧ (decode cX11_combine 44 = .ok (.aload_n 0, 1)) ∧ (decode cX11_combine 45 = .ok (.iload 4, 2)) ∧ (decode cX11_combine 47 = .ok (.aload_n 0, 1)) := by decide +kernel
def dX11_combine_27 := db_cX11_combine_dX11_combine_27_1.1
def dX11_combine_28 := db_cX11_combine_dX11_combine_27_1.2.1
def dX11_combine_29 := db_cX11_combine_dX11_combine_27_1.2.2.1
def dX11_combine_30 := db_cX11_combine_dX11_combine_27_1.2.2.2.1
def dX11_combine_31 := db_cX11_combine_dX11_combine_27_1.2.2.2.2.1
def dX11_combine_34 := db_cX11_combine_dX11_combine_27_1.2.2.2.2.2.1
def dX11_combine_37 := db_cX11_combine_dX11_combine_27_1.2.2.2.2.2.2.1
def dX11_combine_40 := db_cX11_combine_dX11_combine_27_1.2.2.2.2.2.2.2.1
def dX11_combine_41 := db_cX11_combine_dX11_combine_27_1.2.2.2.2.2.2.2.2.1
def dX11_combine_44 := db_cX11_combine_dX11_combine_27_1.2.2.2.2.2.2.2.2.2.1
def dX11_combine_45 := db_cX11_combine_dX11_combine_27_1.2.2.2.2.2.2.2.2.2.2.1
def dX11_combine_47 := db_cX11_combine_dX11_combine_27_1.2.2.2.2.2.2.2.2.2.2.2
set_option maxRecDepth 100000 in
theorem db_cX11_combine_dX11_combine_48_2 : (decode cX11_combine 48 = .ok (.iload_n 1, 1)) ∧ (decode cX11_combine 49 = .ok (.iload_n 2, 1)) ∧ (decode cX11_combine 50 = .ok (.iload_n 3, 1)) ∧ (decode cX11_combine 51 = .ok (.invokevirtual 146, 3)) ∧ (decode cX11_combine 54 = .ok (.invokestatic 76, 3)) ∧ (decode cX11_combine 57 = .ok (.invokevirtual 142, 3)) ∧ (decode cX11_combine 60 = .ok (.ireturn, 1)) := by decide +kernel
def dX11_combine_48 := db_cX11_combine_dX11_combine_48_2.1
def dX11_combine_49 := db_cX11_combine_dX11_combine_48_2.2.1
def dX11_combine_50 := db_cX11_combine_dX11_combine_48_2.2.2.1
def dX11_combine_51 := db_cX11_combine_dX11_combine_48_2.2.2.2.1
def dX11_combine_54 := db_cX11_combine_dX11_combine_48_2.2.2.2.2.1
def dX11_combine_57 := db_cX11_combine_dX11_combine_48_2.2.2.2.2.2.1
def dX11_combine_60 := db_cX11_combine_dX11_combine_48_2.2.2.2.2.2.2
set_option maxRecDepth 100000 in
theorem db_cX11_tell_dX11_tell_0_0 : (decode cX11_tell 0 = .ok (.aload_n 0, 1)) ∧ (decode cX11_tell 1 = .ok (.iload_n 1, 1)) ∧ (decode cX11_tell 2 = .ok (.invokestatic 93, 3)) ∧ (decode cX11_tell 5 = .ok (.iload_n 2, 1)) ∧ (decode cX11_tell 6 = .ok (.iconst 0, 1)) ∧ (decode cX11_tell 7 = .ok (.iconst 4, 1)) ∧ (decode cX11_tell 8 = .ok (.invokestatic 26, 3)) ∧ (decode cX11_tell 11 = .ok (.invokevirtual 97, 3)) ∧ (decode cX11_tell 14 = .ok (.ifCond .eq 5, 3)) ∧ (decode cX11_tell 17 = .ok (.iconst 0, 1)) ∧ (decode cX11_tell 18 = .ok (.ireturn, 1)) ∧ (decode cX11_tell 19 = .ok (.iload_n 2, 1)) := by decide +kernel
def dX11_tell_0 := db_cX11_tell_dX11_tell_0_0.1
def dX11_tell_1 := db_cX11_tell_dX11_tell_0_0.2.1
def dX11_tell_2 := db_cX11_tell_dX11_tell_0_0.2.2.1
def dX11_tell_5 := db_cX11_tell_dX11_tell_0_0.2.2.2.1
def dX11_tell_6 := db_cX11_tell_dX11_tell_0_0.2.2.2.2.1
def dX11_tell_7 := db_cX11_tell_dX11_tell_0_0.2.2.2.2.2.1
def dX11_tell_8 := db_cX11_tell_dX11_tell_0_0.2.2.2.2.2.2.1
def dX11_tell_11 := db_cX11_tell_dX11_tell_0_0.2.2.2.2.2.2.2.1
def dX11_tell_14 := db_cX11_tell_dX11_tell_0_0.2.2.2.2.2.2.2.2.1
def dX11_tell_17 := db_cX11_tell_dX11_tell_0_0.2.2.2.2.2.2.2.2.2.1
def dX11_tell_18 := db_cX11_tell_dX11_tell_0_0.2.2.2.2.2.2.2.2.2.2.1
def dX11_tell_19 := db_cX11_tell_dX11_tell_0_0.2.2.2.2.2.2.2.2.2.2.2
set_option maxRecDepth 100000 in
theorem db_cX11_tell_dX11_tell_20_1 : (decode cX11_tell 20 = .ok (.ifCond .ne 12, 3)) ∧ (decode cX11_tell 23 = .ok (.aload_n 0, 1)) ∧ (decode cX11_tell 24 = .ok (.getfield 7, 3)) ∧ (decode cX11_tell 27 = .ok (.iload_n 1, 1)) ∧ (decode cX11_tell 28 = .ok (.iaload, 1)) ∧ (decode cX11_tell 29 = .ok (.goto 57, 3)) ∧ (decode cX11_tell 32 = .ok (.iload_n 2, 1)) ∧ (decode cX11_tell 33 = .ok (.iconst 1, 1)) ∧ (decode cX11_tell 34 = .ok (.if_icmp .ne 11, 3)) ∧ (decode cX11_tell 37 = .ok (.aload_n 0, 1)) ∧ (decode cX11_tell 38 = .ok (.iload_n 1, 1)) ∧ (decode cX11_tell 39 = .ok (.invokevirtual 101, 3)) := by decide +kernel
def dX11_tell_20 := db_cX11_tell_dX11_tell_20_1.1
def dX11_tell_23 := db_cX11_tell_dX11_tell_20_1.2.1
def dX11_tell_24 := db_cX11_tell_dX11_tell_20_1.2.2.1
def dX11_tell_27 := db_cX11_tell_dX11_tell_20_1.2.2.2.1
def dX11_tell_28 := db_cX11_tell_dX11_tell_20_1.2.2.2.2.1
def dX11_tell_29 := db_cX11_tell_dX11_tell_20_1.2.2.2.2.2.1
def dX11_tell_32 := db_cX11_tell_dX11_tell_20_1.2.2.2.2.2.2.1
def dX11_tell_33 := db_cX11_tell_dX11_tell_20_1.2.2.2.2.2.2.2.1
def dX11_tell_34 := db_cX11_tell_dX11_tell_20_1.2.2.2.2.2.2.2.2.1
def dX11_tell_37 := db_cX11_tell_dX11_tell_20_1.2.2.2.2.2.2.2.2.2.1
def dX11_tell_38 := db_cX11_tell_dX11_tell_20_1.2.2.2.2.2.2.2.2.2.2.1
def dX11_tell_39 := db_cX11_tell_dX11_tell_20_1.2.2.2.2.2.2.2.2.2.2.2
set_option maxRecDepth 100000 in
theorem db_cX11_tell_dX11_tell_42_2 : (decode cX11_tell 42 = .ok (.goto 44, 3)) ∧ (decode cX11_tell 45 = .ok (.iload_n 2, 1)) ∧ (decode cX11_tell 46 = .ok (.iconst 2, 1)) ∧ (decode cX11_tell 47 = .ok (.if_icmp .ne 12, 3)) ∧ (decode cX11_tell 50 = .ok (.aload_n 0, 1)) ∧ (decode cX11_tell 51 = .ok (.getfield 13, 3)) ∧ (decode cX11_tell 54 = .ok (.iload_n 1, 1)) ∧ (decode cX11_tell 55 = .ok (.iaload, 1)) ∧ (decode cX11_tell 56 = .ok (.goto 30, 3)) ∧ (decode cX11_tell 59 = .ok (.iload_n 2, 1)) ∧ (decode cX11_tell 60 = .ok (.iconst 3, 1)) ∧ (decode cX11_tell 61 = .ok (.if_icmp .ne 12, 3)) := by decide +kernel
def dX11_tell_42 := db_cX11_tell_dX11_tell_42_2.1
def dX11_tell_45 := db_cX11_tell_dX11_tell_42_2.2.1
def dX11_tell_46 := db_cX11_tell_dX11_tell_42_2.2.2.1
def dX11_tell_47 := db_cX11_tell_dX11_tell_42_2.2.2.2.1
def dX11_tell_50 := db_cX11_tell_dX11_tell_42_2.2.2.2.2.1
def dX11_tell_51 := db_cX11_tell_dX11_tell_42_2.2.2.2.2.2.1
def dX11_tell_54 := db_cX11_tell_dX11_tell_42_2.2.2.2.2.2.2.1
def dX11_tell_55 := db_cX11_tell_dX11_tell_42_2.2.2.2.2.2.2.2.1
def dX11_tell_56 := db_cX11_tell_dX11_tell_42_2.2.2.2.2.2.2.2.2.1
def dX11_tell_59 := db_cX11_tell_dX11_tell_42_2.2.2.2.2.2.2.2.2.2.1
def dX11_tell_60 := db_cX11_tell_dX11_tell_42_2.2.2.2.2.2.2.2.2.2.2.1
def dX11_tell_61 := db_cX11_tell_dX11_tell_42_2.2.2.2.2.2.2.2.2.2.2.2
set_option maxRecDepth 100000 in
theorem db_cX11_tell_dX11_tell_64_3 : (decode cX11_tell 64 = .ok (.aload_n 0, 1)) ∧ (decode cX11_tell 65 = .ok (.getfield 16, 3)) ∧ (decode cX11_tell 68 = .ok (.iload_n 1, 1)) ∧ (decode cX11_tell 69 = .ok (.iaload, 1)) ∧ (decode cX11_tell 70 = .ok (.goto 16, 3)) ∧ (decode cX11_tell 73 = .ok (.aload_n 0, 1)) ∧ (decode cX11_tell 74 = .ok (.iload_n 1, 1)) ∧ (decode cX11_tell 75 = .ok (.invokevirtual 128, 3)) ∧ (decode cX11_tell 78 = .ok (.ifCond .eq 7, 3)) ∧ (decode cX11_tell 81 = .ok (.iconst 1, 1)) ∧ (decode cX11_tell 82 = .ok (.goto 4, 3)) ∧ (decode cX11_tell 85 = .ok (.iconst 0, 1)) := by decide +kernel
def dX11_tell_64 := db_cX11_tell_dX11_tell_64_3.1
def dX11_tell_65 := db_cX11_tell_dX11_tell_64_3.2.1
def dX11_tell_68 := db_cX11_tell_dX11_tell_64_3.2.2.1
def dX11_tell_69 := db_cX11_tell_dX11_tell_64_3.2.2.2.1
def dX11_tell_70 := db_cX11_tell_dX11_tell_64_3.2.2.2.2.1
def dX11_tell_73 := db_cX11_tell_dX11_tell_64_3.2.2.2.2.2.1
def dX11_tell_74 := db_cX11_tell_dX11_tell_64_3.2.2.2.2.2.2.1
def dX11_tell_75 := db_cX11_tell_dX11_tell_64_3.2.2.2.2.2.2.2.1
def dX11_tell_78 := db_cX11_tell_dX11_tell_64_3.2.2.2.2.2.2.2.2.1
def dX11_tell_81 := db_cX11_tell_dX11_tell_64_3.2.2.2.2.2.2.2.2.2.1
def dX11_tell_82 := db_cX11_tell_dX11_tell_64_3.2.2.2.2.2.2.2.2.2.2.1
def dX11_tell_85 := db_cX11_tell_dX11_tell_64_3.2.2.2.2.2.2.2.2.2.2.2
theorem dX11_tell_86 : decode cX11_tell 86 = .ok (.ireturn, 1) := by decide +kernel
set_option maxRecDepth 100000 in
theorem db_cX11_arrows_dX11_arrows_0_0 : (decode cX11_arrows 0 = .ok (.aload_n 0, 1)) ∧ (decode cX11_arrows 1 = .ok (.iload_n 1, 1)) ∧ (decode cX11_arrows 2 = .ok (.invokestatic 93, 3)) ∧ (decode cX11_arrows 5 = .ok (.ifCond .eq 16, 3)) ∧ (decode cX11_arrows 8 = .ok (.aload_n 0, 1)) ∧ (decode cX11_arrows 9 = .ok (.iload_n 1, 1)) ∧ (decode cX11_arrows 10 = .ok (.iload_n 2, 1)) ∧ (decode cX11_arrows 11 = .ok (.invokevirtual 111, 3)) ∧ (decode cX11_arrows 14 = .ok (.ifCond .eq 7, 3)) ∧ (decode cX11_arrows 17 = .ok (.iconst 1, 1)) ∧ (decode cX11_arrows 18 = .ok (.goto 4, 3)) ∧ (decode cX11_arrows 21 = .ok (.iconst 0, 1)) := by decide +kernel
def dX11_arrows_0 := db_cX11_arrows_dX11_arrows_0_0.1
def dX11_arrows_1 := db_cX11_arrows_dX11_arrows_0_0.2.1
def dX11_arrows_2 := db_cX11_arrows_dX11_arrows_0_0.2.2.1
def dX11_arrows_5 := db_cX11_arrows_dX11_arrows_0_0.2.2.2.1
def dX11_arrows_8 := db_cX11_arrows_dX11_arrows_0_0.2.2.2.2.1
def dX11_arrows_9 := db_cX11_arrows_dX11_arrows_0_0.2.2.2.2.2.1
def dX11_arrows_10 := db_cX11_arrows_dX11_arrows_0_0.2.2.2.2.2.2.1
def dX11_arrows_11 := db_cX11_arrows_dX11_arrows_0_0.2.2.2.2.2.2.2.1
def dX11_arrows_14 := db_cX11_arrows_dX11_arrows_0_0.2.2.2.2.2.2.2.2.1
def dX11_arrows_17 := db_cX11_arrows_dX11_arrows_0_0.2.2.2.2.2.2.2.2.2.1
def dX11_arrows_18 := db_cX11_arrows_dX11_arrows_0_0.2.2.2.2.2.2.2.2.2.2.1
def dX11_arrows_21 := db_cX11_arrows_dX11_arrows_0_0.2.2.2.2.2.2.2.2.2.2.2
set_option maxRecDepth 100000 in
theorem db_cX11_arrows_dX11_arrows_22_1 : (decode cX11_arrows 22 = .ok (.iload_n 3, 1)) ∧ (decode cX11_arrows 23 = .ok (.iconst 0, 1)) ∧ (decode cX11_arrows 24 = .ok (.iconst 2, 1)) ∧ (decode cX11_arrows 25 = .ok (.invokestatic 26, 3)) ∧ (decode cX11_arrows 28 = .ok (.invokevirtual 97, 3)) ∧ (decode cX11_arrows 31 = .ok (.ifCond .eq 7, 3)) ∧ (decode cX11_arrows 34 = .ok (.iconst 0, 1)) ∧ (decode cX11_arrows 35 = .ok (.goto 14, 3)) ∧ (decode cX11_arrows 38 = .ok (.aload_n 0, 1)) ∧ (decode cX11_arrows 39 = .ok (.getfield 19, 3)) ∧ (decode cX11_arrows 42 = .ok (.iload_n 1, 1)) ∧ (decode cX11_arrows 43 = .ok (.iload_n 2, 1)) := by decide +kernel
def dX11_arrows_22 := db_cX11_arrows_dX11_arrows_22_1.1
def dX11_arrows_23 := db_cX11_arrows_dX11_arrows_22_1.2.1
def dX11_arrows_24 := db_cX11_arrows_dX11_arrows_22_1.2.2.1
def dX11_arrows_25 := db_cX11_arrows_dX11_arrows_22_1.2.2.2.1
def dX11_arrows_28 := db_cX11_arrows_dX11_arrows_22_1.2.2.2.2.1
def dX11_arrows_31 := db_cX11_arrows_dX11_arrows_22_1.2.2.2.2.2.1
def dX11_arrows_34 := db_cX11_arrows_dX11_arrows_22_1.2.2.2.2.2.2.1
def dX11_arrows_35 := db_cX11_arrows_dX11_arrows_22_1.2.2.2.2.2.2.2.1
def dX11_arrows_38 := db_cX11_arrows_dX11_arrows_22_1.2.2.2.2.2.2.2.2.1
def dX11_arrows_39 := db_cX11_arrows_dX11_arrows_22_1.2.2.2.2.2.2.2.2.2.1
def dX11_arrows_42 := db_cX11_arrows_dX11_arrows_22_1.2.2.2.2.2.2.2.2.2.2.1
def dX11_arrows_43 := db_cX11_arrows_dX11_arrows_22_1.2.2.2.2.2.2.2.2.2.2.2
set_option maxRecDepth 100000 in
theorem db_cX11_arrows_dX11_arrows_44_2 : (decode cX11_arrows 44 = .ok (.iload_n 3, 1)) ∧ (decode cX11_arrows 45 = .ok (.invokestatic 36, 3)) ∧ (decode cX11_arrows 48 = .ok (.iaload, 1)) ∧ (decode cX11_arrows 49 = .ok (.ireturn, 1)) := by decide +kernel
def dX11_arrows_44 := db_cX11_arrows_dX11_arrows_44_2.1
def dX11_arrows_45 := db_cX11_arrows_dX11_arrows_44_2.2.1
def dX11_arrows_48 := db_cX11_arrows_dX11_arrows_44_2.2.2.1
def dX11_arrows_49 := db_cX11_arrows_dX11_arrows_44_2.2.2.2
set_option maxRecDepth 100000 in
theorem db_cX11_power_dX11_power_0_0 : (decode cX11_power 0 = .ok (.iconst 1, 1)) ∧ (decode cX11_power 1 = .ok (.istore_n 1, 1)) ∧ (decode cX11_power 2 = .ok (.iconst 0, 1)) ∧ (decode cX11_power 3 = .ok (.istore_n 2, 1)) ∧ (decode cX11_power 4 = .ok (.iload_n 2, 1)) ∧ (decode cX11_power 5 = .ok (.iload_n 0, 1)) ∧ (decode cX11_power 6 = .ok (.if_icmp .ge 13, 3)) ∧ (decode cX11_power 9 = .ok (.iload_n 1, 1)) ∧ (decode cX11_power 10 = .ok (.iconst 3, 1)) ∧ (decode cX11_power 11 = .ok (.imul, 1)) ∧ (decode cX11_power 12 = .ok (.istore_n 1, 1)) ∧ (decode cX11_power 13 = .ok (.iinc 2 1, 3)) := by decide +kernel
def dX11_power_0 := db_cX11_power_dX11_power_0_0.1
def dX11_power_1 := db_cX11_power_dX11_power_0_0.2.1
def dX11_power_2 := db_cX11_power_dX11_power_0_0.2.2.1
def dX11_power_3 := db_cX11_power_dX11_power_0_0.2.2.2.1
def dX11_power_4 := db_cX11_power_dX11_power_0_0.2.2.2.2.1
def dX11_power_5 := db_cX11_power_dX11_power_0_0.2.2.2.2.2.1
def dX11_power_6 := db_cX11_power_dX11_power_0_0.2.2.2.2.2.2.1
def dX11_power_9 := db_cX11_power_dX11_power_0_0.2.2.2.2.2.2.2.1
def dX11_power_10 := db_cX11_power_dX11_power_0_0.2.2.2.2.2.2.2.2.1
def dX11_power_11 := db_cX11_power_dX11_power_0_0.2.2.2.2.2.2.2.2.2.1
def dX11_power_12 := db_cX11_power_dX11_power_0_0.2.2.2.2.2.2.2.2.2.2.1
def dX11_power_13 := db_cX11_power_dX11_power_0_0.2.2.2.2.2.2.2.2.2.2.2
set_option maxRecDepth 100000 in
theorem db_cX11_power_dX11_power_16_1 : (decode cX11_power 16 = .ok (.goto (-12), 3)) ∧ (decode cX11_power 19 = .ok (.iload_n 1, 1)) ∧ (decode cX11_power 20 = .ok (.ireturn, 1)) := by decide +kernel
def dX11_power_16 := db_cX11_power_dX11_power_16_1.1
def dX11_power_19 := db_cX11_power_dX11_power_16_1.2.1
def dX11_power_20 := db_cX11_power_dX11_power_16_1.2.2
set_option maxRecDepth 100000 in
theorem db_cX11_isWord_dX11_isWord_0_0 : (decode cX11_isWord 0 = .ok (.iload_n 0, 1)) ∧ (decode cX11_isWord 1 = .ok (.iconst 0, 1)) ∧ (decode cX11_isWord 2 = .ok (.bipush 12, 2)) ∧ (decode cX11_isWord 4 = .ok (.invokestatic 26, 3)) ∧ (decode cX11_isWord 7 = .ok (.ifCond .eq 21, 3)) ∧ (decode cX11_isWord 10 = .ok (.iload_n 1, 1)) ∧ (decode cX11_isWord 11 = .ok (.iconst 0, 1)) ∧ (decode cX11_isWord 12 = .ok (.iload_n 0, 1)) ∧ (decode cX11_isWord 13 = .ok (.invokestatic 150, 3)) ∧ (decode cX11_isWord 16 = .ok (.iconst 1, 1)) ∧ (decode cX11_isWord 17 = .ok (.isub, 1)) ∧ (decode cX11_isWord 18 = .ok (.invokestatic 26, 3)) := by decide +kernel
def dX11_isWord_0 := db_cX11_isWord_dX11_isWord_0_0.1
def dX11_isWord_1 := db_cX11_isWord_dX11_isWord_0_0.2.1
def dX11_isWord_2 := db_cX11_isWord_dX11_isWord_0_0.2.2.1
def dX11_isWord_4 := db_cX11_isWord_dX11_isWord_0_0.2.2.2.1
def dX11_isWord_7 := db_cX11_isWord_dX11_isWord_0_0.2.2.2.2.1
def dX11_isWord_10 := db_cX11_isWord_dX11_isWord_0_0.2.2.2.2.2.1
def dX11_isWord_11 := db_cX11_isWord_dX11_isWord_0_0.2.2.2.2.2.2.1
def dX11_isWord_12 := db_cX11_isWord_dX11_isWord_0_0.2.2.2.2.2.2.2.1
def dX11_isWord_13 := db_cX11_isWord_dX11_isWord_0_0.2.2.2.2.2.2.2.2.1
def dX11_isWord_16 := db_cX11_isWord_dX11_isWord_0_0.2.2.2.2.2.2.2.2.2.1
def dX11_isWord_17 := db_cX11_isWord_dX11_isWord_0_0.2.2.2.2.2.2.2.2.2.2.1
def dX11_isWord_18 := db_cX11_isWord_dX11_isWord_0_0.2.2.2.2.2.2.2.2.2.2.2
set_option maxRecDepth 100000 in
theorem db_cX11_isWord_dX11_isWord_21_1 : (decode cX11_isWord 21 = .ok (.ifCond .eq 7, 3)) ∧ (decode cX11_isWord 24 = .ok (.iconst 1, 1)) ∧ (decode cX11_isWord 25 = .ok (.goto 4, 3)) ∧ (decode cX11_isWord 28 = .ok (.iconst 0, 1)) ∧ (decode cX11_isWord 29 = .ok (.ireturn, 1)) := by decide +kernel
def dX11_isWord_21 := db_cX11_isWord_dX11_isWord_21_1.1
def dX11_isWord_24 := db_cX11_isWord_dX11_isWord_21_1.2.1
def dX11_isWord_25 := db_cX11_isWord_dX11_isWord_21_1.2.2.1
def dX11_isWord_28 := db_cX11_isWord_dX11_isWord_21_1.2.2.2.1
def dX11_isWord_29 := db_cX11_isWord_dX11_isWord_21_1.2.2.2.2
set_option maxRecDepth 100000 in
theorem db_cX11_setAfter_dX11_setAfter_0_0 : (decode cX11_setAfter 0 = .ok (.aload_n 0, 1)) ∧ (decode cX11_setAfter 1 = .ok (.getfield 13, 3)) ∧ (decode cX11_setAfter 4 = .ok (.iload_n 1, 1)) ∧ (decode cX11_setAfter 5 = .ok (.iaload, 1)) ∧ (decode cX11_setAfter 6 = .ok (.istore 4, 2)) ∧ (decode cX11_setAfter 8 = .ok (.iload_n 3, 1)) ∧ (decode cX11_setAfter 9 = .ok (.istore 5, 2)) ∧ (decode cX11_setAfter 11 = .ok (.iconst 0, 1)) ∧ (decode cX11_setAfter 12 = .ok (.istore 6, 2)) ∧ (decode cX11_setAfter 14 = .ok (.iload 6, 2)) ∧ (decode cX11_setAfter 16 = .ok (.iload_n 2, 1)) ∧ (decode cX11_setAfter 17 = .ok (.if_icmp .ge 73, 3)) := by decide +kernel
def dX11_setAfter_0 := db_cX11_setAfter_dX11_setAfter_0_0.1
def dX11_setAfter_1 := db_cX11_setAfter_dX11_setAfter_0_0.2.1
def dX11_setAfter_4 := db_cX11_setAfter_dX11_setAfter_0_0.2.2.1
def dX11_setAfter_5 := db_cX11_setAfter_dX11_setAfter_0_0.2.2.2.1
def dX11_setAfter_6 := db_cX11_setAfter_dX11_setAfter_0_0.2.2.2.2.1
def dX11_setAfter_8 := db_cX11_setAfter_dX11_setAfter_0_0.2.2.2.2.2.1
def dX11_setAfter_9 := db_cX11_setAfter_dX11_setAfter_0_0.2.2.2.2.2.2.1
def dX11_setAfter_11 := db_cX11_setAfter_dX11_setAfter_0_0.2.2.2.2.2.2.2.1
def dX11_setAfter_12 := db_cX11_setAfter_dX11_setAfter_0_0.2.2.2.2.2.2.2.2.1
def dX11_setAfter_14 := db_cX11_setAfter_dX11_setAfter_0_0.2.2.2.2.2.2.2.2.2.1
def dX11_setAfter_16 := db_cX11_setAfter_dX11_setAfter_0_0.2.2.2.2.2.2.2.2.2.2.1
def dX11_setAfter_17 := db_cX11_setAfter_dX11_setAfter_0_0.2.2.2.2.2.2.2.2.2.2.2
set_option maxRecDepth 100000 in
theorem db_cX11_setAfter_dX11_setAfter_20_1 : (decode cX11_setAfter 20 = .ok (.iconst 0, 1)) ∧ (decode cX11_setAfter 21 = .ok (.istore 7, 2)) ∧ (decode cX11_setAfter 23 = .ok (.iconst 0, 1)) ∧ (decode cX11_setAfter 24 = .ok (.istore 8, 2)) ∧ (decode cX11_setAfter 26 = .ok (.iload 8, 2)) ∧ (decode cX11_setAfter 28 = .ok (.aload_n 0, 1)) ∧ (decode cX11_setAfter 29 = .ok (.getfield 7, 3)) ∧ (decode cX11_setAfter 32 = .ok (.iload_n 1, 1)) ∧ (decode cX11_setAfter 33 = .ok (.iaload, 1)) ∧ (decode cX11_setAfter 34 = .ok (.if_icmp .ge 40, 3)) ∧ (decode cX11_setAfter 37 = .ok (.iload 4, 2)) ∧ (decode cX11_setAfter 39 = .ok (.iload 8, 2)) := by decide +kernel
def dX11_setAfter_20 := db_cX11_setAfter_dX11_setAfter_20_1.1
def dX11_setAfter_21 := db_cX11_setAfter_dX11_setAfter_20_1.2.1
def dX11_setAfter_23 := db_cX11_setAfter_dX11_setAfter_20_1.2.2.1
def dX11_setAfter_24 := db_cX11_setAfter_dX11_setAfter_20_1.2.2.2.1
def dX11_setAfter_26 := db_cX11_setAfter_dX11_setAfter_20_1.2.2.2.2.1
def dX11_setAfter_28 := db_cX11_setAfter_dX11_setAfter_20_1.2.2.2.2.2.1
def dX11_setAfter_29 := db_cX11_setAfter_dX11_setAfter_20_1.2.2.2.2.2.2.1
def dX11_setAfter_32 := db_cX11_setAfter_dX11_setAfter_20_1.2.2.2.2.2.2.2.1
def dX11_setAfter_33 := db_cX11_setAfter_dX11_setAfter_20_1.2.2.2.2.2.2.2.2.1
def dX11_setAfter_34 := db_cX11_setAfter_dX11_setAfter_20_1.2.2.2.2.2.2.2.2.2.1
def dX11_setAfter_37 := db_cX11_setAfter_dX11_setAfter_20_1.2.2.2.2.2.2.2.2.2.2.1
def dX11_setAfter_39 := db_cX11_setAfter_dX11_setAfter_20_1.2.2.2.2.2.2.2.2.2.2.2
set_option maxRecDepth 100000 in
theorem db_cX11_setAfter_dX11_setAfter_41_2 : (decode cX11_setAfter 41 = .ok (.ishr, 1)) ∧ (decode cX11_setAfter 42 = .ok (.iconst 1, 1)) ∧ (decode cX11_setAfter 43 = .ok (.iand, 1)) ∧ (decode cX11_setAfter 44 = .ok (.iconst 1, 1)) ∧ (decode cX11_setAfter 45 = .ok (.if_icmp .ne 23, 3)) ∧ (decode cX11_setAfter 48 = .ok (.iload 7, 2)) ∧ (decode cX11_setAfter 50 = .ok (.aload_n 0, 1)) ∧ (decode cX11_setAfter 51 = .ok (.getfield 19, 3)) ∧ (decode cX11_setAfter 54 = .ok (.iload_n 1, 1)) ∧ (decode cX11_setAfter 55 = .ok (.iload 8, 2)) ∧ (decode cX11_setAfter 57 = .ok (.iload 5, 2)) ∧ (decode cX11_setAfter 59 = .ok (.iconst 3, 1)) := by decide +kernel
def dX11_setAfter_41 := db_cX11_setAfter_dX11_setAfter_41_2.1
def dX11_setAfter_42 := db_cX11_setAfter_dX11_setAfter_41_2.2.1
def dX11_setAfter_43 := db_cX11_setAfter_dX11_setAfter_41_2.2.2.1
def dX11_setAfter_44 := db_cX11_setAfter_dX11_setAfter_41_2.2.2.2.1
def dX11_setAfter_45 := db_cX11_setAfter_dX11_setAfter_41_2.2.2.2.2.1
def dX11_setAfter_48 := db_cX11_setAfter_dX11_setAfter_41_2.2.2.2.2.2.1
def dX11_setAfter_50 := db_cX11_setAfter_dX11_setAfter_41_2.2.2.2.2.2.2.1
def dX11_setAfter_51 := db_cX11_setAfter_dX11_setAfter_41_2.2.2.2.2.2.2.2.1
def dX11_setAfter_54 := db_cX11_setAfter_dX11_setAfter_41_2.2.2.2.2.2.2.2.2.1
def dX11_setAfter_55 := db_cX11_setAfter_dX11_setAfter_41_2.2.2.2.2.2.2.2.2.2.1
def dX11_setAfter_57 := db_cX11_setAfter_dX11_setAfter_41_2.2.2.2.2.2.2.2.2.2.2.1
def dX11_setAfter_59 := db_cX11_setAfter_dX11_setAfter_41_2.2.2.2.2.2.2.2.2.2.2.2
set_option maxRecDepth 100000 in
theorem db_cX11_setAfter_dX11_setAfter_60_3 : (decode cX11_setAfter 60 = .ok (.irem, 1)) ∧ (decode cX11_setAfter 61 = .ok (.invokestatic 36, 3)) ∧ (decode cX11_setAfter 64 = .ok (.iaload, 1)) ∧ (decode cX11_setAfter 65 = .ok (.ior, 1)) ∧ (decode cX11_setAfter 66 = .ok (.istore 7, 2)) ∧ (decode cX11_setAfter 68 = .ok (.iinc 8 1, 3)) ∧ (decode cX11_setAfter 71 = .ok (.goto (-45), 3)) ∧ (decode cX11_setAfter 74 = .ok (.iload 7, 2)) ∧ (decode cX11_setAfter 76 = .ok (.istore 4, 2)) ∧ (decode cX11_setAfter 78 = .ok (.iload 5, 2)) ∧ (decode cX11_setAfter 80 = .ok (.iconst 3, 1)) ∧ (decode cX11_setAfter 81 = .ok (.idiv, 1)) := by decide +kernel
def dX11_setAfter_60 := db_cX11_setAfter_dX11_setAfter_60_3.1
def dX11_setAfter_61 := db_cX11_setAfter_dX11_setAfter_60_3.2.1
def dX11_setAfter_64 := db_cX11_setAfter_dX11_setAfter_60_3.2.2.1
def dX11_setAfter_65 := db_cX11_setAfter_dX11_setAfter_60_3.2.2.2.1
def dX11_setAfter_66 := db_cX11_setAfter_dX11_setAfter_60_3.2.2.2.2.1
def dX11_setAfter_68 := db_cX11_setAfter_dX11_setAfter_60_3.2.2.2.2.2.1
def dX11_setAfter_71 := db_cX11_setAfter_dX11_setAfter_60_3.2.2.2.2.2.2.1
def dX11_setAfter_74 := db_cX11_setAfter_dX11_setAfter_60_3.2.2.2.2.2.2.2.1
def dX11_setAfter_76 := db_cX11_setAfter_dX11_setAfter_60_3.2.2.2.2.2.2.2.2.1
def dX11_setAfter_78 := db_cX11_setAfter_dX11_setAfter_60_3.2.2.2.2.2.2.2.2.2.1
def dX11_setAfter_80 := db_cX11_setAfter_dX11_setAfter_60_3.2.2.2.2.2.2.2.2.2.2.1
def dX11_setAfter_81 := db_cX11_setAfter_dX11_setAfter_60_3.2.2.2.2.2.2.2.2.2.2.2
set_option maxRecDepth 100000 in
theorem db_cX11_setAfter_dX11_setAfter_82_4 : (decode cX11_setAfter 82 = .ok (.istore 5, 2)) ∧ (decode cX11_setAfter 84 = .ok (.iinc 6 1, 3)) ∧ (decode cX11_setAfter 87 = .ok (.goto (-73), 3)) ∧ (decode cX11_setAfter 90 = .ok (.iload 4, 2)) ∧ (decode cX11_setAfter 92 = .ok (.ireturn, 1)) := by decide +kernel
def dX11_setAfter_82 := db_cX11_setAfter_dX11_setAfter_82_4.1
def dX11_setAfter_84 := db_cX11_setAfter_dX11_setAfter_82_4.2.1
def dX11_setAfter_87 := db_cX11_setAfter_dX11_setAfter_82_4.2.2.1
def dX11_setAfter_90 := db_cX11_setAfter_dX11_setAfter_82_4.2.2.2.1
def dX11_setAfter_92 := db_cX11_setAfter_dX11_setAfter_82_4.2.2.2.2
set_option maxRecDepth 100000 in
theorem db_cX11_takes_dX11_takes_0_0 : (decode cX11_takes 0 = .ok (.aload_n 0, 1)) ∧ (decode cX11_takes 1 = .ok (.iload_n 1, 1)) ∧ (decode cX11_takes 2 = .ok (.invokestatic 93, 3)) ∧ (decode cX11_takes 5 = .ok (.iload_n 2, 1)) ∧ (decode cX11_takes 6 = .ok (.iload_n 3, 1)) ∧ (decode cX11_takes 7 = .ok (.invokestatic 153, 3)) ∧ (decode cX11_takes 10 = .ok (.invokevirtual 97, 3)) ∧ (decode cX11_takes 13 = .ok (.ifCond .ne 24, 3)) ∧ (decode cX11_takes 16 = .ok (.aload_n 0, 1)) ∧ (decode cX11_takes 17 = .ok (.iload_n 1, 1)) ∧ (decode cX11_takes 18 = .ok (.iload_n 2, 1)) ∧ (decode cX11_takes 19 = .ok (.iload_n 3, 1)) := by decide +kernel
def dX11_takes_0 := db_cX11_takes_dX11_takes_0_0.1
def dX11_takes_1 := db_cX11_takes_dX11_takes_0_0.2.1
def dX11_takes_2 := db_cX11_takes_dX11_takes_0_0.2.2.1
def dX11_takes_5 := db_cX11_takes_dX11_takes_0_0.2.2.2.1
def dX11_takes_6 := db_cX11_takes_dX11_takes_0_0.2.2.2.2.1
def dX11_takes_7 := db_cX11_takes_dX11_takes_0_0.2.2.2.2.2.1
def dX11_takes_10 := db_cX11_takes_dX11_takes_0_0.2.2.2.2.2.2.1
def dX11_takes_13 := db_cX11_takes_dX11_takes_0_0.2.2.2.2.2.2.2.1
def dX11_takes_16 := db_cX11_takes_dX11_takes_0_0.2.2.2.2.2.2.2.2.1
def dX11_takes_17 := db_cX11_takes_dX11_takes_0_0.2.2.2.2.2.2.2.2.2.1
def dX11_takes_18 := db_cX11_takes_dX11_takes_0_0.2.2.2.2.2.2.2.2.2.2.1
def dX11_takes_19 := db_cX11_takes_dX11_takes_0_0.2.2.2.2.2.2.2.2.2.2.2
set_option maxRecDepth 100000 in
theorem db_cX11_takes_dX11_takes_20_1 : (decode cX11_takes 20 = .ok (.invokevirtual 156, 3)) ∧ (decode cX11_takes 23 = .ok (.aload_n 0, 1)) ∧ (decode cX11_takes 24 = .ok (.getfield 16, 3)) ∧ (decode cX11_takes 27 = .ok (.iload_n 1, 1)) ∧ (decode cX11_takes 28 = .ok (.iaload, 1)) ∧ (decode cX11_takes 29 = .ok (.iand, 1)) ∧ (decode cX11_takes 30 = .ok (.ifCond .eq 7, 3)) ∧ (decode cX11_takes 33 = .ok (.iconst 1, 1)) ∧ (decode cX11_takes 34 = .ok (.goto 4, 3)) ∧ (decode cX11_takes 37 = .ok (.iconst 0, 1)) ∧ (decode cX11_takes 38 = .ok (.ireturn, 1)) := by decide +kernel
def dX11_takes_20 := db_cX11_takes_dX11_takes_20_1.1
def dX11_takes_23 := db_cX11_takes_dX11_takes_20_1.2.1
def dX11_takes_24 := db_cX11_takes_dX11_takes_20_1.2.2.1
def dX11_takes_27 := db_cX11_takes_dX11_takes_20_1.2.2.2.1
def dX11_takes_28 := db_cX11_takes_dX11_takes_20_1.2.2.2.2.1
def dX11_takes_29 := db_cX11_takes_dX11_takes_20_1.2.2.2.2.2.1
def dX11_takes_30 := db_cX11_takes_dX11_takes_20_1.2.2.2.2.2.2.1
def dX11_takes_33 := db_cX11_takes_dX11_takes_20_1.2.2.2.2.2.2.2.1
def dX11_takes_34 := db_cX11_takes_dX11_takes_20_1.2.2.2.2.2.2.2.2.1
def dX11_takes_37 := db_cX11_takes_dX11_takes_20_1.2.2.2.2.2.2.2.2.2.1
def dX11_takes_38 := db_cX11_takes_dX11_takes_20_1.2.2.2.2.2.2.2.2.2.2
set_option maxRecDepth 100000 in
theorem db_cX11_after_dX11_after_0_0 : (decode cX11_after 0 = .ok (.aload_n 0, 1)) ∧ (decode cX11_after 1 = .ok (.iload_n 1, 1)) ∧ (decode cX11_after 2 = .ok (.invokestatic 93, 3)) ∧ (decode cX11_after 5 = .ok (.iload_n 2, 1)) ∧ (decode cX11_after 6 = .ok (.iload_n 3, 1)) ∧ (decode cX11_after 7 = .ok (.invokestatic 153, 3)) ∧ (decode cX11_after 10 = .ok (.ifCond .eq 17, 3)) ∧ (decode cX11_after 13 = .ok (.iload 4, 2)) ∧ (decode cX11_after 15 = .ok (.iconst 0, 1)) ∧ (decode cX11_after 16 = .ok (.iconst 2, 1)) ∧ (decode cX11_after 17 = .ok (.invokestatic 26, 3)) ∧ (decode cX11_after 20 = .ok (.ifCond .eq 7, 3)) := by decide +kernel
def dX11_after_0 := db_cX11_after_dX11_after_0_0.1
def dX11_after_1 := db_cX11_after_dX11_after_0_0.2.1
def dX11_after_2 := db_cX11_after_dX11_after_0_0.2.2.1
def dX11_after_5 := db_cX11_after_dX11_after_0_0.2.2.2.1
def dX11_after_6 := db_cX11_after_dX11_after_0_0.2.2.2.2.1
def dX11_after_7 := db_cX11_after_dX11_after_0_0.2.2.2.2.2.1
def dX11_after_10 := db_cX11_after_dX11_after_0_0.2.2.2.2.2.2.1
def dX11_after_13 := db_cX11_after_dX11_after_0_0.2.2.2.2.2.2.2.1
def dX11_after_15 := db_cX11_after_dX11_after_0_0.2.2.2.2.2.2.2.2.1
def dX11_after_16 := db_cX11_after_dX11_after_0_0.2.2.2.2.2.2.2.2.2.1
def dX11_after_17 := db_cX11_after_dX11_after_0_0.2.2.2.2.2.2.2.2.2.2.1
def dX11_after_20 := db_cX11_after_dX11_after_0_0.2.2.2.2.2.2.2.2.2.2.2
set_option maxRecDepth 100000 in
theorem db_cX11_after_dX11_after_23_1 : (decode cX11_after 23 = .ok (.iconst 1, 1)) ∧ (decode cX11_after 24 = .ok (.goto 4, 3)) ∧ (decode cX11_after 27 = .ok (.iconst 0, 1)) ∧ (decode cX11_after 28 = .ok (.invokevirtual 97, 3)) ∧ (decode cX11_after 31 = .ok (.ifCond .eq 5, 3)) ∧ (decode cX11_after 34 = .ok (.iconst 0, 1)) ∧ (decode cX11_after 35 = .ok (.ireturn, 1)) ∧ (decode cX11_after 36 = .ok (.iload 4, 2)) ∧ (decode cX11_after 38 = .ok (.ifCond .ne 11, 3)) ∧ (decode cX11_after 41 = .ok (.aload_n 0, 1)) ∧ (decode cX11_after 42 = .ok (.iload_n 1, 1)) ∧ (decode cX11_after 43 = .ok (.iload_n 2, 1)) := by decide +kernel
def dX11_after_23 := db_cX11_after_dX11_after_23_1.1
def dX11_after_24 := db_cX11_after_dX11_after_23_1.2.1
def dX11_after_27 := db_cX11_after_dX11_after_23_1.2.2.1
def dX11_after_28 := db_cX11_after_dX11_after_23_1.2.2.2.1
def dX11_after_31 := db_cX11_after_dX11_after_23_1.2.2.2.2.1
def dX11_after_34 := db_cX11_after_dX11_after_23_1.2.2.2.2.2.1
def dX11_after_35 := db_cX11_after_dX11_after_23_1.2.2.2.2.2.2.1
def dX11_after_36 := db_cX11_after_dX11_after_23_1.2.2.2.2.2.2.2.1
def dX11_after_38 := db_cX11_after_dX11_after_23_1.2.2.2.2.2.2.2.2.1
def dX11_after_41 := db_cX11_after_dX11_after_23_1.2.2.2.2.2.2.2.2.2.1
def dX11_after_42 := db_cX11_after_dX11_after_23_1.2.2.2.2.2.2.2.2.2.2.1
def dX11_after_43 := db_cX11_after_dX11_after_23_1.2.2.2.2.2.2.2.2.2.2.2
set_option maxRecDepth 100000 in
theorem db_cX11_after_dX11_after_44_2 : (decode cX11_after 44 = .ok (.iload_n 3, 1)) ∧ (decode cX11_after 45 = .ok (.invokevirtual 156, 3)) ∧ (decode cX11_after 48 = .ok (.ireturn, 1)) ∧ (decode cX11_after 49 = .ok (.aload_n 0, 1)) ∧ (decode cX11_after 50 = .ok (.iload_n 1, 1)) ∧ (decode cX11_after 51 = .ok (.iload 4, 2)) ∧ (decode cX11_after 53 = .ok (.iconst 1, 1)) ∧ (decode cX11_after 54 = .ok (.if_icmp .ne 7, 3)) ∧ (decode cX11_after 57 = .ok (.iconst 3, 1)) ∧ (decode cX11_after 58 = .ok (.goto 4, 3)) ∧ (decode cX11_after 61 = .ok (.iconst 0, 1)) ∧ (decode cX11_after 62 = .ok (.invokevirtual 138, 3)) := by decide +kernel
def dX11_after_44 := db_cX11_after_dX11_after_44_2.1
def dX11_after_45 := db_cX11_after_dX11_after_44_2.2.1
def dX11_after_48 := db_cX11_after_dX11_after_44_2.2.2.1
def dX11_after_49 := db_cX11_after_dX11_after_44_2.2.2.2.1
def dX11_after_50 := db_cX11_after_dX11_after_44_2.2.2.2.2.1
def dX11_after_51 := db_cX11_after_dX11_after_44_2.2.2.2.2.2.1
def dX11_after_53 := db_cX11_after_dX11_after_44_2.2.2.2.2.2.2.1
def dX11_after_54 := db_cX11_after_dX11_after_44_2.2.2.2.2.2.2.2.1
def dX11_after_57 := db_cX11_after_dX11_after_44_2.2.2.2.2.2.2.2.2.1
def dX11_after_58 := db_cX11_after_dX11_after_44_2.2.2.2.2.2.2.2.2.2.1
def dX11_after_61 := db_cX11_after_dX11_after_44_2.2.2.2.2.2.2.2.2.2.2.1
def dX11_after_62 := db_cX11_after_dX11_after_44_2.2.2.2.2.2.2.2.2.2.2.2
set_option maxRecDepth 100000 in
theorem db_cX11_after_dX11_after_65_3 : (decode cX11_after 65 = .ok (.astore 5, 2)) ∧ (decode cX11_after 67 = .ok (.aload_n 0, 1)) ∧ (decode cX11_after 68 = .ok (.aload 5, 2)) ∧ (decode cX11_after 70 = .ok (.iconst 3, 1)) ∧ (decode cX11_after 71 = .ok (.invokevirtual 159, 3)) ∧ (decode cX11_after 74 = .ok (.ifCond .eq 5, 3)) ∧ (decode cX11_after 77 = .ok (.iconst 0, 1)) ∧ (decode cX11_after 78 = .ok (.ireturn, 1)) ∧ (decode cX11_after 79 = .ok (.iconst 0, 1)) ∧ (decode cX11_after 80 = .ok (.istore 6, 2)) ∧ (decode cX11_after 82 = .ok (.iload_n 3, 1)) ∧ (decode cX11_after 83 = .ok (.istore 7, 2)) := by decide +kernel
def dX11_after_65 := db_cX11_after_dX11_after_65_3.1
def dX11_after_67 := db_cX11_after_dX11_after_65_3.2.1
def dX11_after_68 := db_cX11_after_dX11_after_65_3.2.2.1
def dX11_after_70 := db_cX11_after_dX11_after_65_3.2.2.2.1
def dX11_after_71 := db_cX11_after_dX11_after_65_3.2.2.2.2.1
def dX11_after_74 := db_cX11_after_dX11_after_65_3.2.2.2.2.2.1
def dX11_after_77 := db_cX11_after_dX11_after_65_3.2.2.2.2.2.2.1
def dX11_after_78 := db_cX11_after_dX11_after_65_3.2.2.2.2.2.2.2.1
def dX11_after_79 := db_cX11_after_dX11_after_65_3.2.2.2.2.2.2.2.2.1
def dX11_after_80 := db_cX11_after_dX11_after_65_3.2.2.2.2.2.2.2.2.2.1
def dX11_after_82 := db_cX11_after_dX11_after_65_3.2.2.2.2.2.2.2.2.2.2.1
def dX11_after_83 := db_cX11_after_dX11_after_65_3.2.2.2.2.2.2.2.2.2.2.2
set_option maxRecDepth 100000 in
theorem db_cX11_after_dX11_after_85_4 : (decode cX11_after 85 = .ok (.iconst 0, 1)) ∧ (decode cX11_after 86 = .ok (.istore 8, 2)) ∧ (decode cX11_after 88 = .ok (.iload 8, 2)) ∧ (decode cX11_after 90 = .ok (.iload_n 2, 1)) ∧ (decode cX11_after 91 = .ok (.if_icmp .ge 29, 3)) ∧ (decode cX11_after 94 = .ok (.aload 5, 2)) ∧ (decode cX11_after 96 = .ok (.iconst 4, 1)) ∧ (decode cX11_after 97 = .ok (.iload 6, 2)) ∧ (decode cX11_after 99 = .ok (.imul, 1)) ∧ (decode cX11_after 100 = .ok (.iload 7, 2)) ∧ (decode cX11_after 102 = .ok (.iconst 3, 1)) ∧ (decode cX11_after 103 = .ok (.irem, 1)) := by decide +kernel
def dX11_after_85 := db_cX11_after_dX11_after_85_4.1
def dX11_after_86 := db_cX11_after_dX11_after_85_4.2.1
def dX11_after_88 := db_cX11_after_dX11_after_85_4.2.2.1
def dX11_after_90 := db_cX11_after_dX11_after_85_4.2.2.2.1
def dX11_after_91 := db_cX11_after_dX11_after_85_4.2.2.2.2.1
def dX11_after_94 := db_cX11_after_dX11_after_85_4.2.2.2.2.2.1
def dX11_after_96 := db_cX11_after_dX11_after_85_4.2.2.2.2.2.2.1
def dX11_after_97 := db_cX11_after_dX11_after_85_4.2.2.2.2.2.2.2.1
def dX11_after_99 := db_cX11_after_dX11_after_85_4.2.2.2.2.2.2.2.2.1
def dX11_after_100 := db_cX11_after_dX11_after_85_4.2.2.2.2.2.2.2.2.2.1
def dX11_after_102 := db_cX11_after_dX11_after_85_4.2.2.2.2.2.2.2.2.2.2.1
def dX11_after_103 := db_cX11_after_dX11_after_85_4.2.2.2.2.2.2.2.2.2.2.2
set_option maxRecDepth 100000 in
theorem db_cX11_after_dX11_after_104_5 : (decode cX11_after 104 = .ok (.iadd, 1)) ∧ (decode cX11_after 105 = .ok (.iaload, 1)) ∧ (decode cX11_after 106 = .ok (.istore 6, 2)) ∧ (decode cX11_after 108 = .ok (.iload 7, 2)) ∧ (decode cX11_after 110 = .ok (.iconst 3, 1)) ∧ (decode cX11_after 111 = .ok (.idiv, 1)) ∧ (decode cX11_after 112 = .ok (.istore 7, 2)) ∧ (decode cX11_after 114 = .ok (.iinc 8 1, 3)) ∧ (decode cX11_after 117 = .ok (.goto (-29), 3)) ∧ (decode cX11_after 120 = .ok (.iload 6, 2)) ∧ (decode cX11_after 122 = .ok (.ireturn, 1)) := by decide +kernel
def dX11_after_104 := db_cX11_after_dX11_after_104_5.1
def dX11_after_105 := db_cX11_after_dX11_after_104_5.2.1
def dX11_after_106 := db_cX11_after_dX11_after_104_5.2.2.1
def dX11_after_108 := db_cX11_after_dX11_after_104_5.2.2.2.1
def dX11_after_110 := db_cX11_after_dX11_after_104_5.2.2.2.2.1
def dX11_after_111 := db_cX11_after_dX11_after_104_5.2.2.2.2.2.1
def dX11_after_112 := db_cX11_after_dX11_after_104_5.2.2.2.2.2.2.1
def dX11_after_114 := db_cX11_after_dX11_after_104_5.2.2.2.2.2.2.2.1
def dX11_after_117 := db_cX11_after_dX11_after_104_5.2.2.2.2.2.2.2.2.1
def dX11_after_120 := db_cX11_after_dX11_after_104_5.2.2.2.2.2.2.2.2.2.1
def dX11_after_122 := db_cX11_after_dX11_after_104_5.2.2.2.2.2.2.2.2.2.2
set_option maxRecDepth 100000 in
theorem db_cX11_size_dX11_size_0_0 : (decode cX11_size 0 = .ok (.aload_n 0, 1)) ∧ (decode cX11_size 1 = .ok (.iload_n 1, 1)) ∧ (decode cX11_size 2 = .ok (.invokestatic 93, 3)) ∧ (decode cX11_size 5 = .ok (.iload_n 2, 1)) ∧ (decode cX11_size 6 = .ok (.iconst 0, 1)) ∧ (decode cX11_size 7 = .ok (.iconst 3, 1)) ∧ (decode cX11_size 8 = .ok (.invokestatic 26, 3)) ∧ (decode cX11_size 11 = .ok (.invokevirtual 97, 3)) ∧ (decode cX11_size 14 = .ok (.ifCond .eq 5, 3)) ∧ (decode cX11_size 17 = .ok (.iconst 0, 1)) ∧ (decode cX11_size 18 = .ok (.ireturn, 1)) ∧ (decode cX11_size 19 = .ok (.aload_n 0, 1)) := by decide +kernel
def dX11_size_0 := db_cX11_size_dX11_size_0_0.1
def dX11_size_1 := db_cX11_size_dX11_size_0_0.2.1
def dX11_size_2 := db_cX11_size_dX11_size_0_0.2.2.1
def dX11_size_5 := db_cX11_size_dX11_size_0_0.2.2.2.1
def dX11_size_6 := db_cX11_size_dX11_size_0_0.2.2.2.2.1
def dX11_size_7 := db_cX11_size_dX11_size_0_0.2.2.2.2.2.1
def dX11_size_8 := db_cX11_size_dX11_size_0_0.2.2.2.2.2.2.1
def dX11_size_11 := db_cX11_size_dX11_size_0_0.2.2.2.2.2.2.2.1
def dX11_size_14 := db_cX11_size_dX11_size_0_0.2.2.2.2.2.2.2.2.1
def dX11_size_17 := db_cX11_size_dX11_size_0_0.2.2.2.2.2.2.2.2.2.1
def dX11_size_18 := db_cX11_size_dX11_size_0_0.2.2.2.2.2.2.2.2.2.2.1
def dX11_size_19 := db_cX11_size_dX11_size_0_0.2.2.2.2.2.2.2.2.2.2.2
set_option maxRecDepth 100000 in
theorem db_cX11_size_dX11_size_20_1 : (decode cX11_size 20 = .ok (.iload_n 1, 1)) ∧ (decode cX11_size 21 = .ok (.iload_n 2, 1)) ∧ (decode cX11_size 22 = .ok (.invokevirtual 138, 3)) ∧ (decode cX11_size 25 = .ok (.astore_n 3, 1)) ∧ (decode cX11_size 26 = .ok (.aload_n 0, 1)) ∧ (decode cX11_size 27 = .ok (.aload_n 3, 1)) ∧ (decode cX11_size 28 = .ok (.iconst 3, 1)) ∧ (decode cX11_size 29 = .ok (.invokevirtual 159, 3)) ∧ (decode cX11_size 32 = .ok (.ifCond .eq 7, 3)) ∧ (decode cX11_size 35 = .ok (.iconst 0, 1)) ∧ (decode cX11_size 36 = .ok (.goto 7, 3)) ∧ (decode cX11_size 39 = .ok (.aload_n 3, 1)) := by decide +kernel
def dX11_size_20 := db_cX11_size_dX11_size_20_1.1
def dX11_size_21 := db_cX11_size_dX11_size_20_1.2.1
def dX11_size_22 := db_cX11_size_dX11_size_20_1.2.2.1
def dX11_size_25 := db_cX11_size_dX11_size_20_1.2.2.2.1
def dX11_size_26 := db_cX11_size_dX11_size_20_1.2.2.2.2.1
def dX11_size_27 := db_cX11_size_dX11_size_20_1.2.2.2.2.2.1
def dX11_size_28 := db_cX11_size_dX11_size_20_1.2.2.2.2.2.2.1
def dX11_size_29 := db_cX11_size_dX11_size_20_1.2.2.2.2.2.2.2.1
def dX11_size_32 := db_cX11_size_dX11_size_20_1.2.2.2.2.2.2.2.2.1
def dX11_size_35 := db_cX11_size_dX11_size_20_1.2.2.2.2.2.2.2.2.2.1
def dX11_size_36 := db_cX11_size_dX11_size_20_1.2.2.2.2.2.2.2.2.2.2.1
def dX11_size_39 := db_cX11_size_dX11_size_20_1.2.2.2.2.2.2.2.2.2.2.2
set_option maxRecDepth 100000 in
theorem db_cX11_size_dX11_size_40_2 : (decode cX11_size 40 = .ok (.arraylength, 1)) ∧ (decode cX11_size 41 = .ok (.iconst 4, 1)) ∧ (decode cX11_size 42 = .ok (.idiv, 1)) ∧ (decode cX11_size 43 = .ok (.ireturn, 1)) := by decide +kernel
def dX11_size_40 := db_cX11_size_dX11_size_40_2.1
def dX11_size_41 := db_cX11_size_dX11_size_40_2.2.1
def dX11_size_42 := db_cX11_size_dX11_size_40_2.2.2.1
def dX11_size_43 := db_cX11_size_dX11_size_40_2.2.2.2
set_option maxRecDepth 100000 in
theorem db_cX11_isReached_dX11_isReached_0_0 : (decode cX11_isReached 0 = .ok (.lconst 1, 1)) ∧ (decode cX11_isReached 1 = .ok (.lstore_n 2, 1)) ∧ (decode cX11_isReached 2 = .ok (.iconst 0, 1)) ∧ (decode cX11_isReached 3 = .ok (.istore 4, 2)) ∧ (decode cX11_isReached 5 = .ok (.iload 4, 2)) ∧ (decode cX11_isReached 7 = .ok (.iload_n 1, 1)) ∧ (decode cX11_isReached 8 = .ok (.if_icmp .ge 75, 3)) ∧ (decode cX11_isReached 11 = .ok (.lconst 0, 1)) ∧ (decode cX11_isReached 12 = .ok (.lstore 5, 2)) ∧ (decode cX11_isReached 14 = .ok (.iconst 0, 1)) ∧ (decode cX11_isReached 15 = .ok (.istore 7, 2)) ∧ (decode cX11_isReached 17 = .ok (.iload 7, 2)) := by decide +kernel
def dX11_isReached_0 := db_cX11_isReached_dX11_isReached_0_0.1
def dX11_isReached_1 := db_cX11_isReached_dX11_isReached_0_0.2.1
def dX11_isReached_2 := db_cX11_isReached_dX11_isReached_0_0.2.2.1
def dX11_isReached_3 := db_cX11_isReached_dX11_isReached_0_0.2.2.2.1
def dX11_isReached_5 := db_cX11_isReached_dX11_isReached_0_0.2.2.2.2.1
def dX11_isReached_7 := db_cX11_isReached_dX11_isReached_0_0.2.2.2.2.2.1
def dX11_isReached_8 := db_cX11_isReached_dX11_isReached_0_0.2.2.2.2.2.2.1
def dX11_isReached_11 := db_cX11_isReached_dX11_isReached_0_0.2.2.2.2.2.2.2.1
def dX11_isReached_12 := db_cX11_isReached_dX11_isReached_0_0.2.2.2.2.2.2.2.2.1
def dX11_isReached_14 := db_cX11_isReached_dX11_isReached_0_0.2.2.2.2.2.2.2.2.2.1
def dX11_isReached_15 := db_cX11_isReached_dX11_isReached_0_0.2.2.2.2.2.2.2.2.2.2.1
def dX11_isReached_17 := db_cX11_isReached_dX11_isReached_0_0.2.2.2.2.2.2.2.2.2.2.2
set_option maxRecDepth 100000 in
theorem db_cX11_isReached_dX11_isReached_19_1 : (decode cX11_isReached 19 = .ok (.aload_n 0, 1)) ∧ (decode cX11_isReached 20 = .ok (.arraylength, 1)) ∧ (decode cX11_isReached 21 = .ok (.iconst 4, 1)) ∧ (decode cX11_isReached 22 = .ok (.idiv, 1)) ∧ (decode cX11_isReached 23 = .ok (.if_icmp .ge 51, 3)) ∧ (decode cX11_isReached 26 = .ok (.iconst 0, 1)) ∧ (decode cX11_isReached 27 = .ok (.istore 8, 2)) ∧ (decode cX11_isReached 29 = .ok (.iload 8, 2)) ∧ (decode cX11_isReached 31 = .ok (.iconst 3, 1)) ∧ (decode cX11_isReached 32 = .ok (.if_icmp .ge 36, 3)) ∧ (decode cX11_isReached 35 = .ok (.lload_n 2, 1)) ∧ (decode cX11_isReached 36 = .ok (.iload 7, 2)) := by decide +kernel
def dX11_isReached_19 := db_cX11_isReached_dX11_isReached_19_1.1
def dX11_isReached_20 := db_cX11_isReached_dX11_isReached_19_1.2.1
def dX11_isReached_21 := db_cX11_isReached_dX11_isReached_19_1.2.2.1
def dX11_isReached_22 := db_cX11_isReached_dX11_isReached_19_1.2.2.2.1
def dX11_isReached_23 := db_cX11_isReached_dX11_isReached_19_1.2.2.2.2.1
def dX11_isReached_26 := db_cX11_isReached_dX11_isReached_19_1.2.2.2.2.2.1
def dX11_isReached_27 := db_cX11_isReached_dX11_isReached_19_1.2.2.2.2.2.2.1
def dX11_isReached_29 := db_cX11_isReached_dX11_isReached_19_1.2.2.2.2.2.2.2.1
def dX11_isReached_31 := db_cX11_isReached_dX11_isReached_19_1.2.2.2.2.2.2.2.2.1
def dX11_isReached_32 := db_cX11_isReached_dX11_isReached_19_1.2.2.2.2.2.2.2.2.2.1
def dX11_isReached_35 := db_cX11_isReached_dX11_isReached_19_1.2.2.2.2.2.2.2.2.2.2.1
def dX11_isReached_36 := db_cX11_isReached_dX11_isReached_19_1.2.2.2.2.2.2.2.2.2.2.2
set_option maxRecDepth 100000 in
theorem db_cX11_isReached_dX11_isReached_38_2 : (decode cX11_isReached 38 = .ok (.lshr, 1)) ∧ (decode cX11_isReached 39 = .ok (.lconst 1, 1)) ∧ (decode cX11_isReached 40 = .ok (.land, 1)) ∧ (decode cX11_isReached 41 = .ok (.lconst 1, 1)) ∧ (decode cX11_isReached 42 = .ok (.lcmp, 1)) ∧ (decode cX11_isReached 43 = .ok (.ifCond .ne 19, 3)) ∧ (decode cX11_isReached 46 = .ok (.lload 5, 2)) ∧ (decode cX11_isReached 48 = .ok (.lconst 1, 1)) ∧ (decode cX11_isReached 49 = .ok (.aload_n 0, 1)) ∧ (decode cX11_isReached 50 = .ok (.iconst 4, 1)) ∧ (decode cX11_isReached 51 = .ok (.iload 7, 2)) ∧ (decode cX11_isReached 53 = .ok (.imul, 1)) := by decide +kernel
def dX11_isReached_38 := db_cX11_isReached_dX11_isReached_38_2.1
def dX11_isReached_39 := db_cX11_isReached_dX11_isReached_38_2.2.1
def dX11_isReached_40 := db_cX11_isReached_dX11_isReached_38_2.2.2.1
def dX11_isReached_41 := db_cX11_isReached_dX11_isReached_38_2.2.2.2.1
def dX11_isReached_42 := db_cX11_isReached_dX11_isReached_38_2.2.2.2.2.1
def dX11_isReached_43 := db_cX11_isReached_dX11_isReached_38_2.2.2.2.2.2.1
def dX11_isReached_46 := db_cX11_isReached_dX11_isReached_38_2.2.2.2.2.2.2.1
def dX11_isReached_48 := db_cX11_isReached_dX11_isReached_38_2.2.2.2.2.2.2.2.1
def dX11_isReached_49 := db_cX11_isReached_dX11_isReached_38_2.2.2.2.2.2.2.2.2.1
def dX11_isReached_50 := db_cX11_isReached_dX11_isReached_38_2.2.2.2.2.2.2.2.2.2.1
def dX11_isReached_51 := db_cX11_isReached_dX11_isReached_38_2.2.2.2.2.2.2.2.2.2.2.1
def dX11_isReached_53 := db_cX11_isReached_dX11_isReached_38_2.2.2.2.2.2.2.2.2.2.2.2
set_option maxRecDepth 100000 in
theorem db_cX11_isReached_dX11_isReached_54_3 : (decode cX11_isReached 54 = .ok (.iload 8, 2)) ∧ (decode cX11_isReached 56 = .ok (.iadd, 1)) ∧ (decode cX11_isReached 57 = .ok (.iaload, 1)) ∧ (decode cX11_isReached 58 = .ok (.lshl, 1)) ∧ (decode cX11_isReached 59 = .ok (.lor, 1)) ∧ (decode cX11_isReached 60 = .ok (.lstore 5, 2)) ∧ (decode cX11_isReached 62 = .ok (.iinc 8 1, 3)) ∧ (decode cX11_isReached 65 = .ok (.goto (-36), 3)) ∧ (decode cX11_isReached 68 = .ok (.iinc 7 1, 3)) ∧ (decode cX11_isReached 71 = .ok (.goto (-54), 3)) ∧ (decode cX11_isReached 74 = .ok (.lload 5, 2)) ∧ (decode cX11_isReached 76 = .ok (.lstore_n 2, 1)) := by decide +kernel
def dX11_isReached_54 := db_cX11_isReached_dX11_isReached_54_3.1
def dX11_isReached_56 := db_cX11_isReached_dX11_isReached_54_3.2.1
def dX11_isReached_57 := db_cX11_isReached_dX11_isReached_54_3.2.2.1
def dX11_isReached_58 := db_cX11_isReached_dX11_isReached_54_3.2.2.2.1
def dX11_isReached_59 := db_cX11_isReached_dX11_isReached_54_3.2.2.2.2.1
def dX11_isReached_60 := db_cX11_isReached_dX11_isReached_54_3.2.2.2.2.2.1
def dX11_isReached_62 := db_cX11_isReached_dX11_isReached_54_3.2.2.2.2.2.2.1
def dX11_isReached_65 := db_cX11_isReached_dX11_isReached_54_3.2.2.2.2.2.2.2.1
def dX11_isReached_68 := db_cX11_isReached_dX11_isReached_54_3.2.2.2.2.2.2.2.2.1
def dX11_isReached_71 := db_cX11_isReached_dX11_isReached_54_3.2.2.2.2.2.2.2.2.2.1
def dX11_isReached_74 := db_cX11_isReached_dX11_isReached_54_3.2.2.2.2.2.2.2.2.2.2.1
def dX11_isReached_76 := db_cX11_isReached_dX11_isReached_54_3.2.2.2.2.2.2.2.2.2.2.2
set_option maxRecDepth 100000 in
theorem db_cX11_isReached_dX11_isReached_77_4 : (decode cX11_isReached 77 = .ok (.iinc 4 1, 3)) ∧ (decode cX11_isReached 80 = .ok (.goto (-75), 3)) ∧ (decode cX11_isReached 83 = .ok (.iconst 0, 1)) ∧ (decode cX11_isReached 84 = .ok (.istore 4, 2)) ∧ (decode cX11_isReached 86 = .ok (.iload 4, 2)) ∧ (decode cX11_isReached 88 = .ok (.aload_n 0, 1)) ∧ (decode cX11_isReached 89 = .ok (.arraylength, 1)) ∧ (decode cX11_isReached 90 = .ok (.iconst 4, 1)) ∧ (decode cX11_isReached 91 = .ok (.idiv, 1)) ∧ (decode cX11_isReached 92 = .ok (.if_icmp .ge 34, 3)) ∧ (decode cX11_isReached 95 = .ok (.lload_n 2, 1)) ∧ (decode cX11_isReached 96 = .ok (.iload 4, 2)) := by decide +kernel
def dX11_isReached_77 := db_cX11_isReached_dX11_isReached_77_4.1
def dX11_isReached_80 := db_cX11_isReached_dX11_isReached_77_4.2.1
def dX11_isReached_83 := db_cX11_isReached_dX11_isReached_77_4.2.2.1
def dX11_isReached_84 := db_cX11_isReached_dX11_isReached_77_4.2.2.2.1
def dX11_isReached_86 := db_cX11_isReached_dX11_isReached_77_4.2.2.2.2.1
def dX11_isReached_88 := db_cX11_isReached_dX11_isReached_77_4.2.2.2.2.2.1
def dX11_isReached_89 := db_cX11_isReached_dX11_isReached_77_4.2.2.2.2.2.2.1
def dX11_isReached_90 := db_cX11_isReached_dX11_isReached_77_4.2.2.2.2.2.2.2.1
def dX11_isReached_91 := db_cX11_isReached_dX11_isReached_77_4.2.2.2.2.2.2.2.2.1
def dX11_isReached_92 := db_cX11_isReached_dX11_isReached_77_4.2.2.2.2.2.2.2.2.2.1
def dX11_isReached_95 := db_cX11_isReached_dX11_isReached_77_4.2.2.2.2.2.2.2.2.2.2.1
def dX11_isReached_96 := db_cX11_isReached_dX11_isReached_77_4.2.2.2.2.2.2.2.2.2.2.2
set_option maxRecDepth 100000 in
theorem db_cX11_isReached_dX11_isReached_98_5 : (decode cX11_isReached 98 = .ok (.lshr, 1)) ∧ (decode cX11_isReached 99 = .ok (.lconst 1, 1)) ∧ (decode cX11_isReached 100 = .ok (.land, 1)) ∧ (decode cX11_isReached 101 = .ok (.lconst 1, 1)) ∧ (decode cX11_isReached 102 = .ok (.lcmp, 1)) ∧ (decode cX11_isReached 103 = .ok (.ifCond .ne 17, 3)) ∧ (decode cX11_isReached 106 = .ok (.aload_n 0, 1)) ∧ (decode cX11_isReached 107 = .ok (.iconst 4, 1)) ∧ (decode cX11_isReached 108 = .ok (.iload 4, 2)) ∧ (decode cX11_isReached 110 = .ok (.imul, 1)) ∧ (decode cX11_isReached 111 = .ok (.iconst 3, 1)) ∧ (decode cX11_isReached 112 = .ok (.iadd, 1)) := by decide +kernel
def dX11_isReached_98 := db_cX11_isReached_dX11_isReached_98_5.1
def dX11_isReached_99 := db_cX11_isReached_dX11_isReached_98_5.2.1
def dX11_isReached_100 := db_cX11_isReached_dX11_isReached_98_5.2.2.1
def dX11_isReached_101 := db_cX11_isReached_dX11_isReached_98_5.2.2.2.1
def dX11_isReached_102 := db_cX11_isReached_dX11_isReached_98_5.2.2.2.2.1
def dX11_isReached_103 := db_cX11_isReached_dX11_isReached_98_5.2.2.2.2.2.1
def dX11_isReached_106 := db_cX11_isReached_dX11_isReached_98_5.2.2.2.2.2.2.1
def dX11_isReached_107 := db_cX11_isReached_dX11_isReached_98_5.2.2.2.2.2.2.2.1
def dX11_isReached_108 := db_cX11_isReached_dX11_isReached_98_5.2.2.2.2.2.2.2.2.1
def dX11_isReached_110 := db_cX11_isReached_dX11_isReached_98_5.2.2.2.2.2.2.2.2.2.1
def dX11_isReached_111 := db_cX11_isReached_dX11_isReached_98_5.2.2.2.2.2.2.2.2.2.2.1
def dX11_isReached_112 := db_cX11_isReached_dX11_isReached_98_5.2.2.2.2.2.2.2.2.2.2.2
set_option maxRecDepth 100000 in
theorem db_cX11_isReached_dX11_isReached_113_6 : (decode cX11_isReached 113 = .ok (.iaload, 1)) ∧ (decode cX11_isReached 114 = .ok (.iconst 1, 1)) ∧ (decode cX11_isReached 115 = .ok (.if_icmp .ne 5, 3)) ∧ (decode cX11_isReached 118 = .ok (.iconst 1, 1)) ∧ (decode cX11_isReached 119 = .ok (.ireturn, 1)) ∧ (decode cX11_isReached 120 = .ok (.iinc 4 1, 3)) ∧ (decode cX11_isReached 123 = .ok (.goto (-37), 3)) ∧ (decode cX11_isReached 126 = .ok (.iconst 0, 1)) ∧ (decode cX11_isReached 127 = .ok (.ireturn, 1)) := by decide +kernel
def dX11_isReached_113 := db_cX11_isReached_dX11_isReached_113_6.1
def dX11_isReached_114 := db_cX11_isReached_dX11_isReached_113_6.2.1
def dX11_isReached_115 := db_cX11_isReached_dX11_isReached_113_6.2.2.1
def dX11_isReached_118 := db_cX11_isReached_dX11_isReached_113_6.2.2.2.1
def dX11_isReached_119 := db_cX11_isReached_dX11_isReached_113_6.2.2.2.2.1
def dX11_isReached_120 := db_cX11_isReached_dX11_isReached_113_6.2.2.2.2.2.1
def dX11_isReached_123 := db_cX11_isReached_dX11_isReached_113_6.2.2.2.2.2.2.1
def dX11_isReached_126 := db_cX11_isReached_dX11_isReached_113_6.2.2.2.2.2.2.2.1
def dX11_isReached_127 := db_cX11_isReached_dX11_isReached_113_6.2.2.2.2.2.2.2.2
set_option maxRecDepth 100000 in
theorem db_cX11_kind_dX11_kind_0_0 : (decode cX11_kind 0 = .ok (.aload_n 0, 1)) ∧ (decode cX11_kind 1 = .ok (.iload_n 1, 1)) ∧ (decode cX11_kind 2 = .ok (.invokestatic 93, 3)) ∧ (decode cX11_kind 5 = .ok (.iconst 1, 1)) ∧ (decode cX11_kind 6 = .ok (.invokevirtual 97, 3)) ∧ (decode cX11_kind 9 = .ok (.ifCond .eq 5, 3)) ∧ (decode cX11_kind 12 = .ok (.iconst 0, 1)) ∧ (decode cX11_kind 13 = .ok (.ireturn, 1)) ∧ (decode cX11_kind 14 = .ok (.aload_n 0, 1)) ∧ (decode cX11_kind 15 = .ok (.iload_n 1, 1)) ∧ (decode cX11_kind 16 = .ok (.iconst 0, 1)) ∧ (decode cX11_kind 17 = .ok (.invokevirtual 138, 3)) := by decide +kernel
def dX11_kind_0 := db_cX11_kind_dX11_kind_0_0.1
def dX11_kind_1 := db_cX11_kind_dX11_kind_0_0.2.1
def dX11_kind_2 := db_cX11_kind_dX11_kind_0_0.2.2.1
def dX11_kind_5 := db_cX11_kind_dX11_kind_0_0.2.2.2.1
def dX11_kind_6 := db_cX11_kind_dX11_kind_0_0.2.2.2.2.1
def dX11_kind_9 := db_cX11_kind_dX11_kind_0_0.2.2.2.2.2.1
def dX11_kind_12 := db_cX11_kind_dX11_kind_0_0.2.2.2.2.2.2.1
def dX11_kind_13 := db_cX11_kind_dX11_kind_0_0.2.2.2.2.2.2.2.1
def dX11_kind_14 := db_cX11_kind_dX11_kind_0_0.2.2.2.2.2.2.2.2.1
def dX11_kind_15 := db_cX11_kind_dX11_kind_0_0.2.2.2.2.2.2.2.2.2.1
def dX11_kind_16 := db_cX11_kind_dX11_kind_0_0.2.2.2.2.2.2.2.2.2.2.1
def dX11_kind_17 := db_cX11_kind_dX11_kind_0_0.2.2.2.2.2.2.2.2.2.2.2
set_option maxRecDepth 100000 in
theorem db_cX11_kind_dX11_kind_20_1 : (decode cX11_kind 20 = .ok (.astore_n 2, 1)) ∧ (decode cX11_kind 21 = .ok (.aload_n 0, 1)) ∧ (decode cX11_kind 22 = .ok (.aload_n 2, 1)) ∧ (decode cX11_kind 23 = .ok (.iconst 2, 1)) ∧ (decode cX11_kind 24 = .ok (.invokevirtual 159, 3)) ∧ (decode cX11_kind 27 = .ok (.ifCond .eq 5, 3)) ∧ (decode cX11_kind 30 = .ok (.iconst 0, 1)) ∧ (decode cX11_kind 31 = .ok (.ireturn, 1)) ∧ (decode cX11_kind 32 = .ok (.aload_n 2, 1)) ∧ (decode cX11_kind 33 = .ok (.arraylength, 1)) ∧ (decode cX11_kind 34 = .ok (.iconst 4, 1)) ∧ (decode cX11_kind 35 = .ok (.idiv, 1)) := by decide +kernel
def dX11_kind_20 := db_cX11_kind_dX11_kind_20_1.1
def dX11_kind_21 := db_cX11_kind_dX11_kind_20_1.2.1
def dX11_kind_22 := db_cX11_kind_dX11_kind_20_1.2.2.1
def dX11_kind_23 := db_cX11_kind_dX11_kind_20_1.2.2.2.1
def dX11_kind_24 := db_cX11_kind_dX11_kind_20_1.2.2.2.2.1
def dX11_kind_27 := db_cX11_kind_dX11_kind_20_1.2.2.2.2.2.1
def dX11_kind_30 := db_cX11_kind_dX11_kind_20_1.2.2.2.2.2.2.1
def dX11_kind_31 := db_cX11_kind_dX11_kind_20_1.2.2.2.2.2.2.2.1
def dX11_kind_32 := db_cX11_kind_dX11_kind_20_1.2.2.2.2.2.2.2.2.1
def dX11_kind_33 := db_cX11_kind_dX11_kind_20_1.2.2.2.2.2.2.2.2.2.1
def dX11_kind_34 := db_cX11_kind_dX11_kind_20_1.2.2.2.2.2.2.2.2.2.2.1
def dX11_kind_35 := db_cX11_kind_dX11_kind_20_1.2.2.2.2.2.2.2.2.2.2.2
set_option maxRecDepth 100000 in
theorem db_cX11_kind_dX11_kind_36_2 : (decode cX11_kind 36 = .ok (.istore_n 3, 1)) ∧ (decode cX11_kind 37 = .ok (.iload_n 3, 1)) ∧ (decode cX11_kind 38 = .ok (.iconst 1, 1)) ∧ (decode cX11_kind 39 = .ok (.if_icmp .ne 7, 3)) ∧ (decode cX11_kind 42 = .ok (.aload_n 2, 1)) ∧ (decode cX11_kind 43 = .ok (.iconst 3, 1)) ∧ (decode cX11_kind 44 = .ok (.iaload, 1)) ∧ (decode cX11_kind 45 = .ok (.ireturn, 1)) ∧ (decode cX11_kind 46 = .ok (.iload_n 3, 1)) ∧ (decode cX11_kind 47 = .ok (.istore 4, 2)) ∧ (decode cX11_kind 49 = .ok (.iload 4, 2)) ∧ (decode cX11_kind 51 = .ok (.iconst 2, 1)) := by decide +kernel
def dX11_kind_36 := db_cX11_kind_dX11_kind_36_2.1
def dX11_kind_37 := db_cX11_kind_dX11_kind_36_2.2.1
def dX11_kind_38 := db_cX11_kind_dX11_kind_36_2.2.2.1
def dX11_kind_39 := db_cX11_kind_dX11_kind_36_2.2.2.2.1
def dX11_kind_42 := db_cX11_kind_dX11_kind_36_2.2.2.2.2.1
def dX11_kind_43 := db_cX11_kind_dX11_kind_36_2.2.2.2.2.2.1
def dX11_kind_44 := db_cX11_kind_dX11_kind_36_2.2.2.2.2.2.2.1
def dX11_kind_45 := db_cX11_kind_dX11_kind_36_2.2.2.2.2.2.2.2.1
def dX11_kind_46 := db_cX11_kind_dX11_kind_36_2.2.2.2.2.2.2.2.2.1
def dX11_kind_47 := db_cX11_kind_dX11_kind_36_2.2.2.2.2.2.2.2.2.2.1
def dX11_kind_49 := db_cX11_kind_dX11_kind_36_2.2.2.2.2.2.2.2.2.2.2.1
def dX11_kind_51 := db_cX11_kind_dX11_kind_36_2.2.2.2.2.2.2.2.2.2.2.2
set_option maxRecDepth 100000 in
theorem db_cX11_kind_dX11_kind_52_3 : (decode cX11_kind 52 = .ok (.iload_n 3, 1)) ∧ (decode cX11_kind 53 = .ok (.imul, 1)) ∧ (decode cX11_kind 54 = .ok (.if_icmp .ge 20, 3)) ∧ (decode cX11_kind 57 = .ok (.aload_n 2, 1)) ∧ (decode cX11_kind 58 = .ok (.iload 4, 2)) ∧ (decode cX11_kind 60 = .ok (.invokestatic 186, 3)) ∧ (decode cX11_kind 63 = .ok (.ifCond .eq 5, 3)) ∧ (decode cX11_kind 66 = .ok (.iconst 3, 1)) ∧ (decode cX11_kind 67 = .ok (.ireturn, 1)) ∧ (decode cX11_kind 68 = .ok (.iinc 4 1, 3)) ∧ (decode cX11_kind 71 = .ok (.goto (-22), 3)) ∧ (decode cX11_kind 74 = .ok (.iconst 2, 1)) := by decide +kernel
def dX11_kind_52 := db_cX11_kind_dX11_kind_52_3.1
def dX11_kind_53 := db_cX11_kind_dX11_kind_52_3.2.1
def dX11_kind_54 := db_cX11_kind_dX11_kind_52_3.2.2.1
def dX11_kind_57 := db_cX11_kind_dX11_kind_52_3.2.2.2.1
def dX11_kind_58 := db_cX11_kind_dX11_kind_52_3.2.2.2.2.1
def dX11_kind_60 := db_cX11_kind_dX11_kind_52_3.2.2.2.2.2.1
def dX11_kind_63 := db_cX11_kind_dX11_kind_52_3.2.2.2.2.2.2.1
def dX11_kind_66 := db_cX11_kind_dX11_kind_52_3.2.2.2.2.2.2.2.1
def dX11_kind_67 := db_cX11_kind_dX11_kind_52_3.2.2.2.2.2.2.2.2.1
def dX11_kind_68 := db_cX11_kind_dX11_kind_52_3.2.2.2.2.2.2.2.2.2.1
def dX11_kind_71 := db_cX11_kind_dX11_kind_52_3.2.2.2.2.2.2.2.2.2.2.1
def dX11_kind_74 := db_cX11_kind_dX11_kind_52_3.2.2.2.2.2.2.2.2.2.2.2
theorem dX11_kind_75 : decode cX11_kind 75 = .ok (.ireturn, 1) := by decide +kernel
set_option maxRecDepth 100000 in
theorem db_cX11_many_dX11_many_0_0 : (decode cX11_many 0 = .ok (.aload_n 0, 1)) ∧ (decode cX11_many 1 = .ok (.iload_n 1, 1)) ∧ (decode cX11_many 2 = .ok (.invokestatic 93, 3)) ∧ (decode cX11_many 5 = .ok (.iload_n 2, 1)) ∧ (decode cX11_many 6 = .ok (.iconst 0, 1)) ∧ (decode cX11_many 7 = .ok (.bipush 12, 2)) ∧ (decode cX11_many 9 = .ok (.invokestatic 26, 3)) ∧ (decode cX11_many 12 = .ok (.ifCond .eq 26, 3)) ∧ (decode cX11_many 15 = .ok (.iload_n 3, 1)) ∧ (decode cX11_many 16 = .ok (.iconst 0, 1)) ∧ (decode cX11_many 17 = .ok (.iconst 1, 1)) ∧ (decode cX11_many 18 = .ok (.invokestatic 26, 3)) := by decide +kernel
def dX11_many_0 := db_cX11_many_dX11_many_0_0.1
def dX11_many_1 := db_cX11_many_dX11_many_0_0.2.1
def dX11_many_2 := db_cX11_many_dX11_many_0_0.2.2.1
def dX11_many_5 := db_cX11_many_dX11_many_0_0.2.2.2.1
def dX11_many_6 := db_cX11_many_dX11_many_0_0.2.2.2.2.1
def dX11_many_7 := db_cX11_many_dX11_many_0_0.2.2.2.2.2.1
def dX11_many_9 := db_cX11_many_dX11_many_0_0.2.2.2.2.2.2.1
def dX11_many_12 := db_cX11_many_dX11_many_0_0.2.2.2.2.2.2.2.1
def dX11_many_15 := db_cX11_many_dX11_many_0_0.2.2.2.2.2.2.2.2.1
def dX11_many_16 := db_cX11_many_dX11_many_0_0.2.2.2.2.2.2.2.2.2.1
def dX11_many_17 := db_cX11_many_dX11_many_0_0.2.2.2.2.2.2.2.2.2.2.1
def dX11_many_18 := db_cX11_many_dX11_many_0_0.2.2.2.2.2.2.2.2.2.2.2
set_option maxRecDepth 100000 in
theorem db_cX11_many_dX11_many_21_1 : (decode cX11_many 21 = .ok (.ifCond .eq 17, 3)) ∧ (decode cX11_many 24 = .ok (.iload_n 3, 1)) ∧ (decode cX11_many 25 = .ok (.ifCond .eq 9, 3)) ∧ (decode cX11_many 28 = .ok (.iload_n 2, 1)) ∧ (decode cX11_many 29 = .ok (.bipush 6, 2)) ∧ (decode cX11_many 31 = .ok (.if_icmp .ge 7, 3)) ∧ (decode cX11_many 34 = .ok (.iconst 1, 1)) ∧ (decode cX11_many 35 = .ok (.goto 4, 3)) ∧ (decode cX11_many 38 = .ok (.iconst 0, 1)) ∧ (decode cX11_many 39 = .ok (.invokevirtual 97, 3)) ∧ (decode cX11_many 42 = .ok (.ifCond .eq 5, 3)) ∧ (decode cX11_many 45 = .ok (.iconst 0, 1)) := by decide +kernel
def dX11_many_21 := db_cX11_many_dX11_many_21_1.1
def dX11_many_24 := db_cX11_many_dX11_many_21_1.2.1
def dX11_many_25 := db_cX11_many_dX11_many_21_1.2.2.1
def dX11_many_28 := db_cX11_many_dX11_many_21_1.2.2.2.1
def dX11_many_29 := db_cX11_many_dX11_many_21_1.2.2.2.2.1
def dX11_many_31 := db_cX11_many_dX11_many_21_1.2.2.2.2.2.1
def dX11_many_34 := db_cX11_many_dX11_many_21_1.2.2.2.2.2.2.1
def dX11_many_35 := db_cX11_many_dX11_many_21_1.2.2.2.2.2.2.2.1
def dX11_many_38 := db_cX11_many_dX11_many_21_1.2.2.2.2.2.2.2.2.1
def dX11_many_39 := db_cX11_many_dX11_many_21_1.2.2.2.2.2.2.2.2.2.1
def dX11_many_42 := db_cX11_many_dX11_many_21_1.2.2.2.2.2.2.2.2.2.2.1
def dX11_many_45 := db_cX11_many_dX11_many_21_1.2.2.2.2.2.2.2.2.2.2.2
set_option maxRecDepth 100000 in
theorem db_cX11_many_dX11_many_46_2 : (decode cX11_many 46 = .ok (.ireturn, 1)) ∧ (decode cX11_many 47 = .ok (.iload_n 3, 1)) ∧ (decode cX11_many 48 = .ok (.ifCond .ne 40, 3)) ∧ (decode cX11_many 51 = .ok (.aload_n 0, 1)) ∧ (decode cX11_many 52 = .ok (.iload_n 1, 1)) ∧ (decode cX11_many 53 = .ok (.iconst 0, 1)) ∧ (decode cX11_many 54 = .ok (.invokevirtual 138, 3)) ∧ (decode cX11_many 57 = .ok (.astore 4, 2)) ∧ (decode cX11_many 59 = .ok (.aload_n 0, 1)) ∧ (decode cX11_many 60 = .ok (.aload 4, 2)) ∧ (decode cX11_many 62 = .ok (.iconst 3, 1)) ∧ (decode cX11_many 63 = .ok (.invokevirtual 159, 3)) := by decide +kernel
def dX11_many_46 := db_cX11_many_dX11_many_46_2.1
def dX11_many_47 := db_cX11_many_dX11_many_46_2.2.1
def dX11_many_48 := db_cX11_many_dX11_many_46_2.2.2.1
def dX11_many_51 := db_cX11_many_dX11_many_46_2.2.2.2.1
def dX11_many_52 := db_cX11_many_dX11_many_46_2.2.2.2.2.1
def dX11_many_53 := db_cX11_many_dX11_many_46_2.2.2.2.2.2.1
def dX11_many_54 := db_cX11_many_dX11_many_46_2.2.2.2.2.2.2.1
def dX11_many_57 := db_cX11_many_dX11_many_46_2.2.2.2.2.2.2.2.1
def dX11_many_59 := db_cX11_many_dX11_many_46_2.2.2.2.2.2.2.2.2.1
def dX11_many_60 := db_cX11_many_dX11_many_46_2.2.2.2.2.2.2.2.2.2.1
def dX11_many_62 := db_cX11_many_dX11_many_46_2.2.2.2.2.2.2.2.2.2.2.1
def dX11_many_63 := db_cX11_many_dX11_many_46_2.2.2.2.2.2.2.2.2.2.2.2
set_option maxRecDepth 100000 in
theorem db_cX11_many_dX11_many_66_3 : (decode cX11_many 66 = .ok (.ifCond .eq 7, 3)) ∧ (decode cX11_many 69 = .ok (.iconst 0, 1)) ∧ (decode cX11_many 70 = .ok (.goto 17, 3)) ∧ (decode cX11_many 73 = .ok (.aload 4, 2)) ∧ (decode cX11_many 75 = .ok (.iload_n 2, 1)) ∧ (decode cX11_many 76 = .ok (.invokestatic 189, 3)) ∧ (decode cX11_many 79 = .ok (.iload_n 2, 1)) ∧ (decode cX11_many 80 = .ok (.aload 4, 2)) ∧ (decode cX11_many 82 = .ok (.arraylength, 1)) ∧ (decode cX11_many 83 = .ok (.iconst 4, 1)) ∧ (decode cX11_many 84 = .ok (.idiv, 1)) ∧ (decode cX11_many 85 = .ok (.imul, 1)) := by decide +kernel
def dX11_many_66 := db_cX11_many_dX11_many_66_3.1
def dX11_many_69 := db_cX11_many_dX11_many_66_3.2.1
def dX11_many_70 := db_cX11_many_dX11_many_66_3.2.2.1
def dX11_many_73 := db_cX11_many_dX11_many_66_3.2.2.2.1
def dX11_many_75 := db_cX11_many_dX11_many_66_3.2.2.2.2.1
def dX11_many_76 := db_cX11_many_dX11_many_66_3.2.2.2.2.2.1
def dX11_many_79 := db_cX11_many_dX11_many_66_3.2.2.2.2.2.2.1
def dX11_many_80 := db_cX11_many_dX11_many_66_3.2.2.2.2.2.2.2.1
def dX11_many_82 := db_cX11_many_dX11_many_66_3.2.2.2.2.2.2.2.2.1
def dX11_many_83 := db_cX11_many_dX11_many_66_3.2.2.2.2.2.2.2.2.2.1
def dX11_many_84 := db_cX11_many_dX11_many_66_3.2.2.2.2.2.2.2.2.2.2.1
def dX11_many_85 := db_cX11_many_dX11_many_66_3.2.2.2.2.2.2.2.2.2.2.2
set_option maxRecDepth 100000 in
theorem db_cX11_many_dX11_many_86_4 : (decode cX11_many 86 = .ok (.iaload, 1)) ∧ (decode cX11_many 87 = .ok (.ireturn, 1)) ∧ (decode cX11_many 88 = .ok (.iconst 0, 1)) ∧ (decode cX11_many 89 = .ok (.istore 4, 2)) ∧ (decode cX11_many 91 = .ok (.iconst 0, 1)) ∧ (decode cX11_many 92 = .ok (.istore 5, 2)) ∧ (decode cX11_many 94 = .ok (.iload 5, 2)) ∧ (decode cX11_many 96 = .ok (.iload_n 2, 1)) ∧ (decode cX11_many 97 = .ok (.invokestatic 150, 3)) ∧ (decode cX11_many 100 = .ok (.if_icmp .ge 37, 3)) ∧ (decode cX11_many 103 = .ok (.iload 4, 2)) ∧ (decode cX11_many 105 = .ok (.aload_n 0, 1)) := by decide +kernel
def dX11_many_86 := db_cX11_many_dX11_many_86_4.1
def dX11_many_87 := db_cX11_many_dX11_many_86_4.2.1
def dX11_many_88 := db_cX11_many_dX11_many_86_4.2.2.1
def dX11_many_89 := db_cX11_many_dX11_many_86_4.2.2.2.1
def dX11_many_91 := db_cX11_many_dX11_many_86_4.2.2.2.2.1
def dX11_many_92 := db_cX11_many_dX11_many_86_4.2.2.2.2.2.1
def dX11_many_94 := db_cX11_many_dX11_many_86_4.2.2.2.2.2.2.1
def dX11_many_96 := db_cX11_many_dX11_many_86_4.2.2.2.2.2.2.2.1
def dX11_many_97 := db_cX11_many_dX11_many_86_4.2.2.2.2.2.2.2.2.1
def dX11_many_100 := db_cX11_many_dX11_many_86_4.2.2.2.2.2.2.2.2.2.1
def dX11_many_103 := db_cX11_many_dX11_many_86_4.2.2.2.2.2.2.2.2.2.2.1
def dX11_many_105 := db_cX11_many_dX11_many_86_4.2.2.2.2.2.2.2.2.2.2.2
set_option maxRecDepth 100000 in
theorem db_cX11_many_dX11_many_106_5 : (decode cX11_many 106 = .ok (.iload_n 1, 1)) ∧ (decode cX11_many 107 = .ok (.iload_n 2, 1)) ∧ (decode cX11_many 108 = .ok (.iload 5, 2)) ∧ (decode cX11_many 110 = .ok (.invokevirtual 156, 3)) ∧ (decode cX11_many 113 = .ok (.aload_n 0, 1)) ∧ (decode cX11_many 114 = .ok (.getfield 16, 3)) ∧ (decode cX11_many 117 = .ok (.iload_n 1, 1)) ∧ (decode cX11_many 118 = .ok (.iaload, 1)) ∧ (decode cX11_many 119 = .ok (.iand, 1)) ∧ (decode cX11_many 120 = .ok (.ifCond .eq 7, 3)) ∧ (decode cX11_many 123 = .ok (.iconst 1, 1)) ∧ (decode cX11_many 124 = .ok (.goto 4, 3)) := by decide +kernel
def dX11_many_106 := db_cX11_many_dX11_many_106_5.1
def dX11_many_107 := db_cX11_many_dX11_many_106_5.2.1
def dX11_many_108 := db_cX11_many_dX11_many_106_5.2.2.1
def dX11_many_110 := db_cX11_many_dX11_many_106_5.2.2.2.1
def dX11_many_113 := db_cX11_many_dX11_many_106_5.2.2.2.2.1
def dX11_many_114 := db_cX11_many_dX11_many_106_5.2.2.2.2.2.1
def dX11_many_117 := db_cX11_many_dX11_many_106_5.2.2.2.2.2.2.1
def dX11_many_118 := db_cX11_many_dX11_many_106_5.2.2.2.2.2.2.2.1
def dX11_many_119 := db_cX11_many_dX11_many_106_5.2.2.2.2.2.2.2.2.1
def dX11_many_120 := db_cX11_many_dX11_many_106_5.2.2.2.2.2.2.2.2.2.1
def dX11_many_123 := db_cX11_many_dX11_many_106_5.2.2.2.2.2.2.2.2.2.2.1
def dX11_many_124 := db_cX11_many_dX11_many_106_5.2.2.2.2.2.2.2.2.2.2.2
set_option maxRecDepth 100000 in
theorem db_cX11_many_dX11_many_127_6 : (decode cX11_many 127 = .ok (.iconst 0, 1)) ∧ (decode cX11_many 128 = .ok (.iadd, 1)) ∧ (decode cX11_many 129 = .ok (.istore 4, 2)) ∧ (decode cX11_many 131 = .ok (.iinc 5 1, 3)) ∧ (decode cX11_many 134 = .ok (.goto (-40), 3)) ∧ (decode cX11_many 137 = .ok (.iload 4, 2)) ∧ (decode cX11_many 139 = .ok (.ireturn, 1)) := by decide +kernel
def dX11_many_127 := db_cX11_many_dX11_many_127_6.1
def dX11_many_128 := db_cX11_many_dX11_many_127_6.2.1
def dX11_many_129 := db_cX11_many_dX11_many_127_6.2.2.1
def dX11_many_131 := db_cX11_many_dX11_many_127_6.2.2.2.1
def dX11_many_134 := db_cX11_many_dX11_many_127_6.2.2.2.2.1
def dX11_many_137 := db_cX11_many_dX11_many_127_6.2.2.2.2.2.1
def dX11_many_139 := db_cX11_many_dX11_many_127_6.2.2.2.2.2.2
set_option maxRecDepth 100000 in
theorem db_cX11_isAlike_dX11_isAlike_0_0 : (decode cX11_isAlike 0 = .ok (.aload_n 0, 1)) ∧ (decode cX11_isAlike 1 = .ok (.iload_n 1, 1)) ∧ (decode cX11_isAlike 2 = .ok (.invokestatic 93, 3)) ∧ (decode cX11_isAlike 5 = .ok (.ifCond .eq 14, 3)) ∧ (decode cX11_isAlike 8 = .ok (.iload_n 2, 1)) ∧ (decode cX11_isAlike 9 = .ok (.invokestatic 93, 3)) ∧ (decode cX11_isAlike 12 = .ok (.ifCond .eq 7, 3)) ∧ (decode cX11_isAlike 15 = .ok (.iconst 1, 1)) ∧ (decode cX11_isAlike 16 = .ok (.goto 4, 3)) ∧ (decode cX11_isAlike 19 = .ok (.iconst 0, 1)) ∧ (decode cX11_isAlike 20 = .ok (.iload_n 3, 1)) ∧ (decode cX11_isAlike 21 = .ok (.iconst 0, 1)) := by decide +kernel
def dX11_isAlike_0 := db_cX11_isAlike_dX11_isAlike_0_0.1
def dX11_isAlike_1 := db_cX11_isAlike_dX11_isAlike_0_0.2.1
def dX11_isAlike_2 := db_cX11_isAlike_dX11_isAlike_0_0.2.2.1
def dX11_isAlike_5 := db_cX11_isAlike_dX11_isAlike_0_0.2.2.2.1
def dX11_isAlike_8 := db_cX11_isAlike_dX11_isAlike_0_0.2.2.2.2.1
def dX11_isAlike_9 := db_cX11_isAlike_dX11_isAlike_0_0.2.2.2.2.2.1
def dX11_isAlike_12 := db_cX11_isAlike_dX11_isAlike_0_0.2.2.2.2.2.2.1
def dX11_isAlike_15 := db_cX11_isAlike_dX11_isAlike_0_0.2.2.2.2.2.2.2.1
def dX11_isAlike_16 := db_cX11_isAlike_dX11_isAlike_0_0.2.2.2.2.2.2.2.2.1
def dX11_isAlike_19 := db_cX11_isAlike_dX11_isAlike_0_0.2.2.2.2.2.2.2.2.2.1
def dX11_isAlike_20 := db_cX11_isAlike_dX11_isAlike_0_0.2.2.2.2.2.2.2.2.2.2.1
def dX11_isAlike_21 := db_cX11_isAlike_dX11_isAlike_0_0.2.2.2.2.2.2.2.2.2.2.2
set_option maxRecDepth 100000 in
theorem db_cX11_isAlike_dX11_isAlike_22_1 : (decode cX11_isAlike 22 = .ok (.iconst 1, 1)) ∧ (decode cX11_isAlike 23 = .ok (.invokestatic 26, 3)) ∧ (decode cX11_isAlike 26 = .ok (.invokevirtual 97, 3)) ∧ (decode cX11_isAlike 29 = .ok (.ifCond .eq 5, 3)) ∧ (decode cX11_isAlike 32 = .ok (.iconst 0, 1)) ∧ (decode cX11_isAlike 33 = .ok (.ireturn, 1)) ∧ (decode cX11_isAlike 34 = .ok (.iload_n 3, 1)) ∧ (decode cX11_isAlike 35 = .ok (.ifCond .ne 38, 3)) ∧ (decode cX11_isAlike 38 = .ok (.aload_n 0, 1)) ∧ (decode cX11_isAlike 39 = .ok (.iload_n 1, 1)) ∧ (decode cX11_isAlike 40 = .ok (.iload_n 2, 1)) ∧ (decode cX11_isAlike 41 = .ok (.invokevirtual 192, 3)) := by decide +kernel
def dX11_isAlike_22 := db_cX11_isAlike_dX11_isAlike_22_1.1
def dX11_isAlike_23 := db_cX11_isAlike_dX11_isAlike_22_1.2.1
def dX11_isAlike_26 := db_cX11_isAlike_dX11_isAlike_22_1.2.2.1
def dX11_isAlike_29 := db_cX11_isAlike_dX11_isAlike_22_1.2.2.2.1
def dX11_isAlike_32 := db_cX11_isAlike_dX11_isAlike_22_1.2.2.2.2.1
def dX11_isAlike_33 := db_cX11_isAlike_dX11_isAlike_22_1.2.2.2.2.2.1
def dX11_isAlike_34 := db_cX11_isAlike_dX11_isAlike_22_1.2.2.2.2.2.2.1
def dX11_isAlike_35 := db_cX11_isAlike_dX11_isAlike_22_1.2.2.2.2.2.2.2.1
def dX11_isAlike_38 := db_cX11_isAlike_dX11_isAlike_22_1.2.2.2.2.2.2.2.2.1
def dX11_isAlike_39 := db_cX11_isAlike_dX11_isAlike_22_1.2.2.2.2.2.2.2.2.2.1
def dX11_isAlike_40 := db_cX11_isAlike_dX11_isAlike_22_1.2.2.2.2.2.2.2.2.2.2.1
def dX11_isAlike_41 := db_cX11_isAlike_dX11_isAlike_22_1.2.2.2.2.2.2.2.2.2.2.2
set_option maxRecDepth 100000 in
theorem db_cX11_isAlike_dX11_isAlike_44_2 : (decode cX11_isAlike 44 = .ok (.astore 4, 2)) ∧ (decode cX11_isAlike 46 = .ok (.aload_n 0, 1)) ∧ (decode cX11_isAlike 47 = .ok (.aload 4, 2)) ∧ (decode cX11_isAlike 49 = .ok (.iconst 3, 1)) ∧ (decode cX11_isAlike 50 = .ok (.invokevirtual 159, 3)) ∧ (decode cX11_isAlike 53 = .ok (.ifCond .ne 18, 3)) ∧ (decode cX11_isAlike 56 = .ok (.aload_n 0, 1)) ∧ (decode cX11_isAlike 57 = .ok (.iload_n 1, 1)) ∧ (decode cX11_isAlike 58 = .ok (.iload_n 2, 1)) ∧ (decode cX11_isAlike 59 = .ok (.aload 4, 2)) ∧ (decode cX11_isAlike 61 = .ok (.invokevirtual 195, 3)) ∧ (decode cX11_isAlike 64 = .ok (.ifCond .ne 7, 3)) := by decide +kernel
def dX11_isAlike_44 := db_cX11_isAlike_dX11_isAlike_44_2.1
def dX11_isAlike_46 := db_cX11_isAlike_dX11_isAlike_44_2.2.1
def dX11_isAlike_47 := db_cX11_isAlike_dX11_isAlike_44_2.2.2.1
def dX11_isAlike_49 := db_cX11_isAlike_dX11_isAlike_44_2.2.2.2.1
def dX11_isAlike_50 := db_cX11_isAlike_dX11_isAlike_44_2.2.2.2.2.1
def dX11_isAlike_53 := db_cX11_isAlike_dX11_isAlike_44_2.2.2.2.2.2.1
def dX11_isAlike_56 := db_cX11_isAlike_dX11_isAlike_44_2.2.2.2.2.2.2.1
def dX11_isAlike_57 := db_cX11_isAlike_dX11_isAlike_44_2.2.2.2.2.2.2.2.1
def dX11_isAlike_58 := db_cX11_isAlike_dX11_isAlike_44_2.2.2.2.2.2.2.2.2.1
def dX11_isAlike_59 := db_cX11_isAlike_dX11_isAlike_44_2.2.2.2.2.2.2.2.2.2.1
def dX11_isAlike_61 := db_cX11_isAlike_dX11_isAlike_44_2.2.2.2.2.2.2.2.2.2.2.1
def dX11_isAlike_64 := db_cX11_isAlike_dX11_isAlike_44_2.2.2.2.2.2.2.2.2.2.2.2
set_option maxRecDepth 100000 in
theorem db_cX11_isAlike_dX11_isAlike_67_3 : (decode cX11_isAlike 67 = .ok (.iconst 1, 1)) ∧ (decode cX11_isAlike 68 = .ok (.goto 4, 3)) ∧ (decode cX11_isAlike 71 = .ok (.iconst 0, 1)) ∧ (decode cX11_isAlike 72 = .ok (.ireturn, 1)) ∧ (decode cX11_isAlike 73 = .ok (.aload_n 0, 1)) ∧ (decode cX11_isAlike 74 = .ok (.iload_n 1, 1)) ∧ (decode cX11_isAlike 75 = .ok (.iconst 0, 1)) ∧ (decode cX11_isAlike 76 = .ok (.invokevirtual 138, 3)) ∧ (decode cX11_isAlike 79 = .ok (.astore 4, 2)) ∧ (decode cX11_isAlike 81 = .ok (.aload_n 0, 1)) ∧ (decode cX11_isAlike 82 = .ok (.iload_n 2, 1)) ∧ (decode cX11_isAlike 83 = .ok (.iconst 0, 1)) := by decide +kernel
def dX11_isAlike_67 := db_cX11_isAlike_dX11_isAlike_67_3.1
def dX11_isAlike_68 := db_cX11_isAlike_dX11_isAlike_67_3.2.1
def dX11_isAlike_71 := db_cX11_isAlike_dX11_isAlike_67_3.2.2.1
def dX11_isAlike_72 := db_cX11_isAlike_dX11_isAlike_67_3.2.2.2.1
def dX11_isAlike_73 := db_cX11_isAlike_dX11_isAlike_67_3.2.2.2.2.1
def dX11_isAlike_74 := db_cX11_isAlike_dX11_isAlike_67_3.2.2.2.2.2.1
def dX11_isAlike_75 := db_cX11_isAlike_dX11_isAlike_67_3.2.2.2.2.2.2.1
def dX11_isAlike_76 := db_cX11_isAlike_dX11_isAlike_67_3.2.2.2.2.2.2.2.1
def dX11_isAlike_79 := db_cX11_isAlike_dX11_isAlike_67_3.2.2.2.2.2.2.2.2.1
def dX11_isAlike_81 := db_cX11_isAlike_dX11_isAlike_67_3.2.2.2.2.2.2.2.2.2.1
def dX11_isAlike_82 := db_cX11_isAlike_dX11_isAlike_67_3.2.2.2.2.2.2.2.2.2.2.1
def dX11_isAlike_83 := db_cX11_isAlike_dX11_isAlike_67_3.2.2.2.2.2.2.2.2.2.2.2
set_option maxRecDepth 100000 in
theorem db_cX11_isAlike_dX11_isAlike_84_4 : (decode cX11_isAlike 84 = .ok (.invokevirtual 138, 3)) ∧ (decode cX11_isAlike 87 = .ok (.astore 5, 2)) ∧ (decode cX11_isAlike 89 = .ok (.aload_n 0, 1)) ∧ (decode cX11_isAlike 90 = .ok (.aload 4, 2)) ∧ (decode cX11_isAlike 92 = .ok (.iconst 3, 1)) ∧ (decode cX11_isAlike 93 = .ok (.invokevirtual 159, 3)) ∧ (decode cX11_isAlike 96 = .ok (.ifCond .ne 13, 3)) ∧ (decode cX11_isAlike 99 = .ok (.aload_n 0, 1)) ∧ (decode cX11_isAlike 100 = .ok (.aload 5, 2)) ∧ (decode cX11_isAlike 102 = .ok (.iconst 3, 1)) ∧ (decode cX11_isAlike 103 = .ok (.invokevirtual 159, 3)) ∧ (decode cX11_isAlike 106 = .ok (.ifCond .eq 5, 3)) := by decide +kernel
def dX11_isAlike_84 := db_cX11_isAlike_dX11_isAlike_84_4.1
def dX11_isAlike_87 := db_cX11_isAlike_dX11_isAlike_84_4.2.1
def dX11_isAlike_89 := db_cX11_isAlike_dX11_isAlike_84_4.2.2.1
def dX11_isAlike_90 := db_cX11_isAlike_dX11_isAlike_84_4.2.2.2.1
def dX11_isAlike_92 := db_cX11_isAlike_dX11_isAlike_84_4.2.2.2.2.1
def dX11_isAlike_93 := db_cX11_isAlike_dX11_isAlike_84_4.2.2.2.2.2.1
def dX11_isAlike_96 := db_cX11_isAlike_dX11_isAlike_84_4.2.2.2.2.2.2.1
def dX11_isAlike_99 := db_cX11_isAlike_dX11_isAlike_84_4.2.2.2.2.2.2.2.1
def dX11_isAlike_100 := db_cX11_isAlike_dX11_isAlike_84_4.2.2.2.2.2.2.2.2.1
def dX11_isAlike_102 := db_cX11_isAlike_dX11_isAlike_84_4.2.2.2.2.2.2.2.2.2.1
def dX11_isAlike_103 := db_cX11_isAlike_dX11_isAlike_84_4.2.2.2.2.2.2.2.2.2.2.1
def dX11_isAlike_106 := db_cX11_isAlike_dX11_isAlike_84_4.2.2.2.2.2.2.2.2.2.2.2
set_option maxRecDepth 100000 in
theorem db_cX11_isAlike_dX11_isAlike_109_5 : (decode cX11_isAlike 109 = .ok (.iconst 0, 1)) ∧ (decode cX11_isAlike 110 = .ok (.ireturn, 1)) ∧ (decode cX11_isAlike 111 = .ok (.aload 4, 2)) ∧ (decode cX11_isAlike 113 = .ok (.arraylength, 1)) ∧ (decode cX11_isAlike 114 = .ok (.aload 5, 2)) ∧ (decode cX11_isAlike 116 = .ok (.arraylength, 1)) ∧ (decode cX11_isAlike 117 = .ok (.if_icmp .ne 7, 3)) ∧ (decode cX11_isAlike 120 = .ok (.iconst 1, 1)) ∧ (decode cX11_isAlike 121 = .ok (.goto 4, 3)) ∧ (decode cX11_isAlike 124 = .ok (.iconst 0, 1)) ∧ (decode cX11_isAlike 125 = .ok (.istore 6, 2)) ∧ (decode cX11_isAlike 127 = .ok (.iconst 0, 1)) := by decide +kernel
def dX11_isAlike_109 := db_cX11_isAlike_dX11_isAlike_109_5.1
def dX11_isAlike_110 := db_cX11_isAlike_dX11_isAlike_109_5.2.1
def dX11_isAlike_111 := db_cX11_isAlike_dX11_isAlike_109_5.2.2.1
def dX11_isAlike_113 := db_cX11_isAlike_dX11_isAlike_109_5.2.2.2.1
def dX11_isAlike_114 := db_cX11_isAlike_dX11_isAlike_109_5.2.2.2.2.1
def dX11_isAlike_116 := db_cX11_isAlike_dX11_isAlike_109_5.2.2.2.2.2.1
def dX11_isAlike_117 := db_cX11_isAlike_dX11_isAlike_109_5.2.2.2.2.2.2.1
def dX11_isAlike_120 := db_cX11_isAlike_dX11_isAlike_109_5.2.2.2.2.2.2.2.1
def dX11_isAlike_121 := db_cX11_isAlike_dX11_isAlike_109_5.2.2.2.2.2.2.2.2.1
def dX11_isAlike_124 := db_cX11_isAlike_dX11_isAlike_109_5.2.2.2.2.2.2.2.2.2.1
def dX11_isAlike_125 := db_cX11_isAlike_dX11_isAlike_109_5.2.2.2.2.2.2.2.2.2.2.1
def dX11_isAlike_127 := db_cX11_isAlike_dX11_isAlike_109_5.2.2.2.2.2.2.2.2.2.2.2
set_option maxRecDepth 100000 in
theorem db_cX11_isAlike_dX11_isAlike_128_6 : (decode cX11_isAlike 128 = .ok (.istore 7, 2)) ∧ (decode cX11_isAlike 130 = .ok (.iload 6, 2)) ∧ (decode cX11_isAlike 132 = .ok (.ifCond .eq 37, 3)) ∧ (decode cX11_isAlike 135 = .ok (.iload 7, 2)) ∧ (decode cX11_isAlike 137 = .ok (.aload 4, 2)) ∧ (decode cX11_isAlike 139 = .ok (.arraylength, 1)) ∧ (decode cX11_isAlike 140 = .ok (.if_icmp .ge 29, 3)) ∧ (decode cX11_isAlike 143 = .ok (.aload 4, 2)) ∧ (decode cX11_isAlike 145 = .ok (.iload 7, 2)) ∧ (decode cX11_isAlike 147 = .ok (.iaload, 1)) ∧ (decode cX11_isAlike 148 = .ok (.aload 5, 2)) ∧ (decode cX11_isAlike 150 = .ok (.iload 7, 2)) := by decide +kernel
def dX11_isAlike_128 := db_cX11_isAlike_dX11_isAlike_128_6.1
def dX11_isAlike_130 := db_cX11_isAlike_dX11_isAlike_128_6.2.1
def dX11_isAlike_132 := db_cX11_isAlike_dX11_isAlike_128_6.2.2.1
def dX11_isAlike_135 := db_cX11_isAlike_dX11_isAlike_128_6.2.2.2.1
def dX11_isAlike_137 := db_cX11_isAlike_dX11_isAlike_128_6.2.2.2.2.1
def dX11_isAlike_139 := db_cX11_isAlike_dX11_isAlike_128_6.2.2.2.2.2.1
def dX11_isAlike_140 := db_cX11_isAlike_dX11_isAlike_128_6.2.2.2.2.2.2.1
def dX11_isAlike_143 := db_cX11_isAlike_dX11_isAlike_128_6.2.2.2.2.2.2.2.1
def dX11_isAlike_145 := db_cX11_isAlike_dX11_isAlike_128_6.2.2.2.2.2.2.2.2.1
def dX11_isAlike_147 := db_cX11_isAlike_dX11_isAlike_128_6.2.2.2.2.2.2.2.2.2.1
def dX11_isAlike_148 := db_cX11_isAlike_dX11_isAlike_128_6.2.2.2.2.2.2.2.2.2.2.1
def dX11_isAlike_150 := db_cX11_isAlike_dX11_isAlike_128_6.2.2.2.2.2.2.2.2.2.2.2
set_option maxRecDepth 100000 in
theorem db_cX11_isAlike_dX11_isAlike_152_7 : (decode cX11_isAlike 152 = .ok (.iaload, 1)) ∧ (decode cX11_isAlike 153 = .ok (.if_icmp .ne 7, 3)) ∧ (decode cX11_isAlike 156 = .ok (.iconst 1, 1)) ∧ (decode cX11_isAlike 157 = .ok (.goto 4, 3)) ∧ (decode cX11_isAlike 160 = .ok (.iconst 0, 1)) ∧ (decode cX11_isAlike 161 = .ok (.istore 6, 2)) ∧ (decode cX11_isAlike 163 = .ok (.iinc 7 1, 3)) ∧ (decode cX11_isAlike 166 = .ok (.goto (-36), 3)) ∧ (decode cX11_isAlike 169 = .ok (.iload 6, 2)) ∧ (decode cX11_isAlike 171 = .ok (.ireturn, 1)) := by decide +kernel
def dX11_isAlike_152 := db_cX11_isAlike_dX11_isAlike_152_7.1
def dX11_isAlike_153 := db_cX11_isAlike_dX11_isAlike_152_7.2.1
def dX11_isAlike_156 := db_cX11_isAlike_dX11_isAlike_152_7.2.2.1
def dX11_isAlike_157 := db_cX11_isAlike_dX11_isAlike_152_7.2.2.2.1
def dX11_isAlike_160 := db_cX11_isAlike_dX11_isAlike_152_7.2.2.2.2.1
def dX11_isAlike_161 := db_cX11_isAlike_dX11_isAlike_152_7.2.2.2.2.2.1
def dX11_isAlike_163 := db_cX11_isAlike_dX11_isAlike_152_7.2.2.2.2.2.2.1
def dX11_isAlike_166 := db_cX11_isAlike_dX11_isAlike_152_7.2.2.2.2.2.2.2.1
def dX11_isAlike_169 := db_cX11_isAlike_dX11_isAlike_152_7.2.2.2.2.2.2.2.2.1
def dX11_isAlike_171 := db_cX11_isAlike_dX11_isAlike_152_7.2.2.2.2.2.2.2.2.2
set_option maxRecDepth 100000 in
theorem db_cX11_pairs_dX11_pairs_0_0 : (decode cX11_pairs 0 = .ok (.aload_n 0, 1)) ∧ (decode cX11_pairs 1 = .ok (.iload_n 1, 1)) ∧ (decode cX11_pairs 2 = .ok (.invokestatic 93, 3)) ∧ (decode cX11_pairs 5 = .ok (.ifCond .eq 14, 3)) ∧ (decode cX11_pairs 8 = .ok (.iload_n 2, 1)) ∧ (decode cX11_pairs 9 = .ok (.invokestatic 93, 3)) ∧ (decode cX11_pairs 12 = .ok (.ifCond .eq 7, 3)) ∧ (decode cX11_pairs 15 = .ok (.iconst 1, 1)) ∧ (decode cX11_pairs 16 = .ok (.goto 4, 3)) ∧ (decode cX11_pairs 19 = .ok (.iconst 0, 1)) ∧ (decode cX11_pairs 20 = .ok (.iconst 1, 1)) ∧ (decode cX11_pairs 21 = .ok (.invokevirtual 97, 3)) := by decide +kernel
def dX11_pairs_0 := db_cX11_pairs_dX11_pairs_0_0.1
def dX11_pairs_1 := db_cX11_pairs_dX11_pairs_0_0.2.1
def dX11_pairs_2 := db_cX11_pairs_dX11_pairs_0_0.2.2.1
def dX11_pairs_5 := db_cX11_pairs_dX11_pairs_0_0.2.2.2.1
def dX11_pairs_8 := db_cX11_pairs_dX11_pairs_0_0.2.2.2.2.1
def dX11_pairs_9 := db_cX11_pairs_dX11_pairs_0_0.2.2.2.2.2.1
def dX11_pairs_12 := db_cX11_pairs_dX11_pairs_0_0.2.2.2.2.2.2.1
def dX11_pairs_15 := db_cX11_pairs_dX11_pairs_0_0.2.2.2.2.2.2.2.1
def dX11_pairs_16 := db_cX11_pairs_dX11_pairs_0_0.2.2.2.2.2.2.2.2.1
def dX11_pairs_19 := db_cX11_pairs_dX11_pairs_0_0.2.2.2.2.2.2.2.2.2.1
def dX11_pairs_20 := db_cX11_pairs_dX11_pairs_0_0.2.2.2.2.2.2.2.2.2.2.1
def dX11_pairs_21 := db_cX11_pairs_dX11_pairs_0_0.2.2.2.2.2.2.2.2.2.2.2
set_option maxRecDepth 100000 in
theorem db_cX11_pairs_dX11_pairs_24_1 : (decode cX11_pairs 24 = .ok (.ifCond .eq 5, 3)) ∧ (decode cX11_pairs 27 = .ok (.iconst 0, 1)) ∧ (decode cX11_pairs 28 = .ok (.ireturn, 1)) ∧ (decode cX11_pairs 29 = .ok (.aload_n 0, 1)) ∧ (decode cX11_pairs 30 = .ok (.iload_n 1, 1)) ∧ (decode cX11_pairs 31 = .ok (.iload_n 2, 1)) ∧ (decode cX11_pairs 32 = .ok (.invokevirtual 192, 3)) ∧ (decode cX11_pairs 35 = .ok (.astore_n 3, 1)) ∧ (decode cX11_pairs 36 = .ok (.aload_n 0, 1)) ∧ (decode cX11_pairs 37 = .ok (.aload_n 3, 1)) ∧ (decode cX11_pairs 38 = .ok (.iconst 2, 1)) ∧ (decode cX11_pairs 39 = .ok (.invokevirtual 159, 3)) := by decide +kernel
def dX11_pairs_24 := db_cX11_pairs_dX11_pairs_24_1.1
def dX11_pairs_27 := db_cX11_pairs_dX11_pairs_24_1.2.1
def dX11_pairs_28 := db_cX11_pairs_dX11_pairs_24_1.2.2.1
def dX11_pairs_29 := db_cX11_pairs_dX11_pairs_24_1.2.2.2.1
def dX11_pairs_30 := db_cX11_pairs_dX11_pairs_24_1.2.2.2.2.1
def dX11_pairs_31 := db_cX11_pairs_dX11_pairs_24_1.2.2.2.2.2.1
def dX11_pairs_32 := db_cX11_pairs_dX11_pairs_24_1.2.2.2.2.2.2.1
def dX11_pairs_35 := db_cX11_pairs_dX11_pairs_24_1.2.2.2.2.2.2.2.1
def dX11_pairs_36 := db_cX11_pairs_dX11_pairs_24_1.2.2.2.2.2.2.2.2.1
def dX11_pairs_37 := db_cX11_pairs_dX11_pairs_24_1.2.2.2.2.2.2.2.2.2.1
def dX11_pairs_38 := db_cX11_pairs_dX11_pairs_24_1.2.2.2.2.2.2.2.2.2.2.1
def dX11_pairs_39 := db_cX11_pairs_dX11_pairs_24_1.2.2.2.2.2.2.2.2.2.2.2
set_option maxRecDepth 100000 in
theorem db_cX11_pairs_dX11_pairs_42_2 : (decode cX11_pairs 42 = .ok (.ifCond .eq 7, 3)) ∧ (decode cX11_pairs 45 = .ok (.iconst 0, 1)) ∧ (decode cX11_pairs 46 = .ok (.goto 6, 3)) ∧ (decode cX11_pairs 49 = .ok (.aload_n 3, 1)) ∧ (decode cX11_pairs 50 = .ok (.iconst 0, 1)) ∧ (decode cX11_pairs 51 = .ok (.iaload, 1)) ∧ (decode cX11_pairs 52 = .ok (.ireturn, 1)) := by decide +kernel
def dX11_pairs_42 := db_cX11_pairs_dX11_pairs_42_2.1
def dX11_pairs_45 := db_cX11_pairs_dX11_pairs_42_2.2.1
def dX11_pairs_46 := db_cX11_pairs_dX11_pairs_42_2.2.2.1
def dX11_pairs_49 := db_cX11_pairs_dX11_pairs_42_2.2.2.2.1
def dX11_pairs_50 := db_cX11_pairs_dX11_pairs_42_2.2.2.2.2.1
def dX11_pairs_51 := db_cX11_pairs_dX11_pairs_42_2.2.2.2.2.2.1
def dX11_pairs_52 := db_cX11_pairs_dX11_pairs_42_2.2.2.2.2.2.2
set_option maxRecDepth 100000 in
theorem db_cX11_together_dX11_together_0_0 : (decode cX11_together 0 = .ok (.aload_n 0, 1)) ∧ (decode cX11_together 1 = .ok (.iload_n 1, 1)) ∧ (decode cX11_together 2 = .ok (.invokestatic 93, 3)) ∧ (decode cX11_together 5 = .ok (.ifCond .eq 14, 3)) ∧ (decode cX11_together 8 = .ok (.iload_n 2, 1)) ∧ (decode cX11_together 9 = .ok (.invokestatic 93, 3)) ∧ (decode cX11_together 12 = .ok (.ifCond .eq 7, 3)) ∧ (decode cX11_together 15 = .ok (.iconst 1, 1)) ∧ (decode cX11_together 16 = .ok (.goto 4, 3)) ∧ (decode cX11_together 19 = .ok (.iconst 0, 1)) ∧ (decode cX11_together 20 = .ok (.iload_n 3, 1)) ∧ (decode cX11_together 21 = .ok (.iconst 0, 1)) := by decide +kernel
def dX11_together_0 := db_cX11_together_dX11_together_0_0.1
def dX11_together_1 := db_cX11_together_dX11_together_0_0.2.1
def dX11_together_2 := db_cX11_together_dX11_together_0_0.2.2.1
def dX11_together_5 := db_cX11_together_dX11_together_0_0.2.2.2.1
def dX11_together_8 := db_cX11_together_dX11_together_0_0.2.2.2.2.1
def dX11_together_9 := db_cX11_together_dX11_together_0_0.2.2.2.2.2.1
def dX11_together_12 := db_cX11_together_dX11_together_0_0.2.2.2.2.2.2.1
def dX11_together_15 := db_cX11_together_dX11_together_0_0.2.2.2.2.2.2.2.1
def dX11_together_16 := db_cX11_together_dX11_together_0_0.2.2.2.2.2.2.2.2.1
def dX11_together_19 := db_cX11_together_dX11_together_0_0.2.2.2.2.2.2.2.2.2.1
def dX11_together_20 := db_cX11_together_dX11_together_0_0.2.2.2.2.2.2.2.2.2.2.1
def dX11_together_21 := db_cX11_together_dX11_together_0_0.2.2.2.2.2.2.2.2.2.2.2
set_option maxRecDepth 100000 in
theorem db_cX11_together_dX11_together_22_1 : (decode cX11_together 22 = .ok (.iconst 3, 1)) ∧ (decode cX11_together 23 = .ok (.invokestatic 26, 3)) ∧ (decode cX11_together 26 = .ok (.ifCond .eq 18, 3)) ∧ (decode cX11_together 29 = .ok (.iload 4, 2)) ∧ (decode cX11_together 31 = .ok (.iconst (-1), 1)) ∧ (decode cX11_together 32 = .ok (.bipush 12, 2)) ∧ (decode cX11_together 34 = .ok (.invokestatic 26, 3)) ∧ (decode cX11_together 37 = .ok (.ifCond .eq 7, 3)) ∧ (decode cX11_together 40 = .ok (.iconst 1, 1)) ∧ (decode cX11_together 41 = .ok (.goto 4, 3)) ∧ (decode cX11_together 44 = .ok (.iconst 0, 1)) ∧ (decode cX11_together 45 = .ok (.invokevirtual 97, 3)) := by decide +kernel
def dX11_together_22 := db_cX11_together_dX11_together_22_1.1
def dX11_together_23 := db_cX11_together_dX11_together_22_1.2.1
def dX11_together_26 := db_cX11_together_dX11_together_22_1.2.2.1
def dX11_together_29 := db_cX11_together_dX11_together_22_1.2.2.2.1
def dX11_together_31 := db_cX11_together_dX11_together_22_1.2.2.2.2.1
def dX11_together_32 := db_cX11_together_dX11_together_22_1.2.2.2.2.2.1
def dX11_together_34 := db_cX11_together_dX11_together_22_1.2.2.2.2.2.2.1
def dX11_together_37 := db_cX11_together_dX11_together_22_1.2.2.2.2.2.2.2.1
def dX11_together_40 := db_cX11_together_dX11_together_22_1.2.2.2.2.2.2.2.2.1
def dX11_together_41 := db_cX11_together_dX11_together_22_1.2.2.2.2.2.2.2.2.2.1
def dX11_together_44 := db_cX11_together_dX11_together_22_1.2.2.2.2.2.2.2.2.2.2.1
def dX11_together_45 := db_cX11_together_dX11_together_22_1.2.2.2.2.2.2.2.2.2.2.2
set_option maxRecDepth 100000 in
theorem db_cX11_together_dX11_together_48_2 : (decode cX11_together 48 = .ok (.ifCond .eq 5, 3)) ∧ (decode cX11_together 51 = .ok (.iconst 0, 1)) ∧ (decode cX11_together 52 = .ok (.ireturn, 1)) ∧ (decode cX11_together 53 = .ok (.aload_n 0, 1)) ∧ (decode cX11_together 54 = .ok (.iload_n 1, 1)) ∧ (decode cX11_together 55 = .ok (.iload_n 2, 1)) ∧ (decode cX11_together 56 = .ok (.iload_n 3, 1)) ∧ (decode cX11_together 57 = .ok (.invokevirtual 146, 3)) ∧ (decode cX11_together 60 = .ok (.invokestatic 76, 3)) ∧ (decode cX11_together 63 = .ok (.astore 5, 2)) ∧ (decode cX11_together 65 = .ok (.aload_n 0, 1)) ∧ (decode cX11_together 66 = .ok (.aload 5, 2)) := by decide +kernel
def dX11_together_48 := db_cX11_together_dX11_together_48_2.1
def dX11_together_51 := db_cX11_together_dX11_together_48_2.2.1
def dX11_together_52 := db_cX11_together_dX11_together_48_2.2.2.1
def dX11_together_53 := db_cX11_together_dX11_together_48_2.2.2.2.1
def dX11_together_54 := db_cX11_together_dX11_together_48_2.2.2.2.2.1
def dX11_together_55 := db_cX11_together_dX11_together_48_2.2.2.2.2.2.1
def dX11_together_56 := db_cX11_together_dX11_together_48_2.2.2.2.2.2.2.1
def dX11_together_57 := db_cX11_together_dX11_together_48_2.2.2.2.2.2.2.2.1
def dX11_together_60 := db_cX11_together_dX11_together_48_2.2.2.2.2.2.2.2.2.1
def dX11_together_63 := db_cX11_together_dX11_together_48_2.2.2.2.2.2.2.2.2.2.1
def dX11_together_65 := db_cX11_together_dX11_together_48_2.2.2.2.2.2.2.2.2.2.2.1
def dX11_together_66 := db_cX11_together_dX11_together_48_2.2.2.2.2.2.2.2.2.2.2.2
set_option maxRecDepth 100000 in
theorem db_cX11_together_dX11_together_68_3 : (decode cX11_together 68 = .ok (.iconst 3, 1)) ∧ (decode cX11_together 69 = .ok (.invokevirtual 159, 3)) ∧ (decode cX11_together 72 = .ok (.ifCond .eq 5, 3)) ∧ (decode cX11_together 75 = .ok (.iconst 0, 1)) ∧ (decode cX11_together 76 = .ok (.ireturn, 1)) ∧ (decode cX11_together 77 = .ok (.iload 4, 2)) ∧ (decode cX11_together 79 = .ok (.iconst (-1), 1)) ∧ (decode cX11_together 80 = .ok (.if_icmp .ne 11, 3)) ∧ (decode cX11_together 83 = .ok (.aload 5, 2)) ∧ (decode cX11_together 85 = .ok (.arraylength, 1)) ∧ (decode cX11_together 86 = .ok (.iconst 4, 1)) ∧ (decode cX11_together 87 = .ok (.idiv, 1)) := by decide +kernel
def dX11_together_68 := db_cX11_together_dX11_together_68_3.1
def dX11_together_69 := db_cX11_together_dX11_together_68_3.2.1
def dX11_together_72 := db_cX11_together_dX11_together_68_3.2.2.1
def dX11_together_75 := db_cX11_together_dX11_together_68_3.2.2.2.1
def dX11_together_76 := db_cX11_together_dX11_together_68_3.2.2.2.2.1
def dX11_together_77 := db_cX11_together_dX11_together_68_3.2.2.2.2.2.1
def dX11_together_79 := db_cX11_together_dX11_together_68_3.2.2.2.2.2.2.1
def dX11_together_80 := db_cX11_together_dX11_together_68_3.2.2.2.2.2.2.2.1
def dX11_together_83 := db_cX11_together_dX11_together_68_3.2.2.2.2.2.2.2.2.1
def dX11_together_85 := db_cX11_together_dX11_together_68_3.2.2.2.2.2.2.2.2.2.1
def dX11_together_86 := db_cX11_together_dX11_together_68_3.2.2.2.2.2.2.2.2.2.2.1
def dX11_together_87 := db_cX11_together_dX11_together_68_3.2.2.2.2.2.2.2.2.2.2.2
set_option maxRecDepth 100000 in
theorem db_cX11_together_dX11_together_88_4 : (decode cX11_together 88 = .ok (.goto 19, 3)) ∧ (decode cX11_together 91 = .ok (.aload 5, 2)) ∧ (decode cX11_together 93 = .ok (.iload 4, 2)) ∧ (decode cX11_together 95 = .ok (.invokestatic 189, 3)) ∧ (decode cX11_together 98 = .ok (.iload 4, 2)) ∧ (decode cX11_together 100 = .ok (.aload 5, 2)) ∧ (decode cX11_together 102 = .ok (.arraylength, 1)) ∧ (decode cX11_together 103 = .ok (.iconst 4, 1)) ∧ (decode cX11_together 104 = .ok (.idiv, 1)) ∧ (decode cX11_together 105 = .ok (.imul, 1)) ∧ (decode cX11_together 106 = .ok (.iaload, 1)) ∧ (decode cX11_together 107 = .ok (.ireturn, 1)) := by decide +kernel
def dX11_together_88 := db_cX11_together_dX11_together_88_4.1
def dX11_together_91 := db_cX11_together_dX11_together_88_4.2.1
def dX11_together_93 := db_cX11_together_dX11_together_88_4.2.2.1
def dX11_together_95 := db_cX11_together_dX11_together_88_4.2.2.2.1
def dX11_together_98 := db_cX11_together_dX11_together_88_4.2.2.2.2.1
def dX11_together_100 := db_cX11_together_dX11_together_88_4.2.2.2.2.2.1
def dX11_together_102 := db_cX11_together_dX11_together_88_4.2.2.2.2.2.2.1
def dX11_together_103 := db_cX11_together_dX11_together_88_4.2.2.2.2.2.2.2.1
def dX11_together_104 := db_cX11_together_dX11_together_88_4.2.2.2.2.2.2.2.2.1
def dX11_together_105 := db_cX11_together_dX11_together_88_4.2.2.2.2.2.2.2.2.2.1
def dX11_together_106 := db_cX11_together_dX11_together_88_4.2.2.2.2.2.2.2.2.2.2.1
def dX11_together_107 := db_cX11_together_dX11_together_88_4.2.2.2.2.2.2.2.2.2.2.2
set_option maxRecDepth 100000 in
theorem db_cX11_house_dX11_house_0_0 : (decode cX11_house 0 = .ok (.aload_n 0, 1)) ∧ (decode cX11_house 1 = .ok (.iload_n 1, 1)) ∧ (decode cX11_house 2 = .ok (.iconst 0, 1)) ∧ (decode cX11_house 3 = .ok (.iconst 2, 1)) ∧ (decode cX11_house 4 = .ok (.invokestatic 26, 3)) ∧ (decode cX11_house 7 = .ok (.iconst 1, 1)) ∧ (decode cX11_house 8 = .ok (.invokevirtual 97, 3)) ∧ (decode cX11_house 11 = .ok (.ifCond .eq 5, 3)) ∧ (decode cX11_house 14 = .ok (.iconst 0, 1)) ∧ (decode cX11_house 15 = .ok (.ireturn, 1)) ∧ (decode cX11_house 16 = .ok (.iload_n 1, 1)) ∧ (decode cX11_house 17 = .ok (.ifCond .ne 10, 3)) := by decide +kernel
def dX11_house_0 := db_cX11_house_dX11_house_0_0.1
def dX11_house_1 := db_cX11_house_dX11_house_0_0.2.1
def dX11_house_2 := db_cX11_house_dX11_house_0_0.2.2.1
def dX11_house_3 := db_cX11_house_dX11_house_0_0.2.2.2.1
def dX11_house_4 := db_cX11_house_dX11_house_0_0.2.2.2.2.1
def dX11_house_7 := db_cX11_house_dX11_house_0_0.2.2.2.2.2.1
def dX11_house_8 := db_cX11_house_dX11_house_0_0.2.2.2.2.2.2.1
def dX11_house_11 := db_cX11_house_dX11_house_0_0.2.2.2.2.2.2.2.1
def dX11_house_14 := db_cX11_house_dX11_house_0_0.2.2.2.2.2.2.2.2.1
def dX11_house_15 := db_cX11_house_dX11_house_0_0.2.2.2.2.2.2.2.2.2.1
def dX11_house_16 := db_cX11_house_dX11_house_0_0.2.2.2.2.2.2.2.2.2.2.1
def dX11_house_17 := db_cX11_house_dX11_house_0_0.2.2.2.2.2.2.2.2.2.2.2
set_option maxRecDepth 100000 in
theorem db_cX11_house_dX11_house_20_1 : (decode cX11_house 20 = .ok (.aload_n 0, 1)) ∧ (decode cX11_house 21 = .ok (.getfield 30, 3)) ∧ (decode cX11_house 24 = .ok (.goto 19, 3)) ∧ (decode cX11_house 27 = .ok (.iload_n 1, 1)) ∧ (decode cX11_house 28 = .ok (.iconst 1, 1)) ∧ (decode cX11_house 29 = .ok (.if_icmp .ne 10, 3)) ∧ (decode cX11_house 32 = .ok (.aload_n 0, 1)) ∧ (decode cX11_house 33 = .ok (.getfield 33, 3)) ∧ (decode cX11_house 36 = .ok (.goto 7, 3)) ∧ (decode cX11_house 39 = .ok (.aload_n 0, 1)) ∧ (decode cX11_house 40 = .ok (.getfield 201, 3)) ∧ (decode cX11_house 43 = .ok (.ireturn, 1)) := by decide +kernel
def dX11_house_20 := db_cX11_house_dX11_house_20_1.1
def dX11_house_21 := db_cX11_house_dX11_house_20_1.2.1
def dX11_house_24 := db_cX11_house_dX11_house_20_1.2.2.1
def dX11_house_27 := db_cX11_house_dX11_house_20_1.2.2.2.1
def dX11_house_28 := db_cX11_house_dX11_house_20_1.2.2.2.2.1
def dX11_house_29 := db_cX11_house_dX11_house_20_1.2.2.2.2.2.1
def dX11_house_32 := db_cX11_house_dX11_house_20_1.2.2.2.2.2.2.1
def dX11_house_33 := db_cX11_house_dX11_house_20_1.2.2.2.2.2.2.2.1
def dX11_house_36 := db_cX11_house_dX11_house_20_1.2.2.2.2.2.2.2.2.1
def dX11_house_39 := db_cX11_house_dX11_house_20_1.2.2.2.2.2.2.2.2.2.1
def dX11_house_40 := db_cX11_house_dX11_house_20_1.2.2.2.2.2.2.2.2.2.2.1
def dX11_house_43 := db_cX11_house_dX11_house_20_1.2.2.2.2.2.2.2.2.2.2.2
set_option maxRecDepth 100000 in
theorem db_cX11_knock_dX11_knock_0_0 : (decode cX11_knock 0 = .ok (.aload_n 0, 1)) ∧ (decode cX11_knock 1 = .ok (.iconst 0, 1)) ∧ (decode cX11_knock 2 = .ok (.putfield 22, 3)) ∧ (decode cX11_knock 5 = .ok (.aload_n 0, 1)) ∧ (decode cX11_knock 6 = .ok (.dup, 1)) ∧ (decode cX11_knock 7 = .ok (.getfield 201, 3)) ∧ (decode cX11_knock 10 = .ok (.iconst 1, 1)) ∧ (decode cX11_knock 11 = .ok (.iadd, 1)) ∧ (decode cX11_knock 12 = .ok (.putfield 201, 3)) ∧ (decode cX11_knock 15 = .ok (.aload_n 0, 1)) ∧ (decode cX11_knock 16 = .ok (.getfield 201, 3)) ∧ (decode cX11_knock 19 = .ok (.ireturn, 1)) := by decide +kernel
def dX11_knock_0 := db_cX11_knock_dX11_knock_0_0.1
def dX11_knock_1 := db_cX11_knock_dX11_knock_0_0.2.1
def dX11_knock_2 := db_cX11_knock_dX11_knock_0_0.2.2.1
def dX11_knock_5 := db_cX11_knock_dX11_knock_0_0.2.2.2.1
def dX11_knock_6 := db_cX11_knock_dX11_knock_0_0.2.2.2.2.1
def dX11_knock_7 := db_cX11_knock_dX11_knock_0_0.2.2.2.2.2.1
def dX11_knock_10 := db_cX11_knock_dX11_knock_0_0.2.2.2.2.2.2.1
def dX11_knock_11 := db_cX11_knock_dX11_knock_0_0.2.2.2.2.2.2.2.1
def dX11_knock_12 := db_cX11_knock_dX11_knock_0_0.2.2.2.2.2.2.2.2.1
def dX11_knock_15 := db_cX11_knock_dX11_knock_0_0.2.2.2.2.2.2.2.2.2.1
def dX11_knock_16 := db_cX11_knock_dX11_knock_0_0.2.2.2.2.2.2.2.2.2.2.1
def dX11_knock_19 := db_cX11_knock_dX11_knock_0_0.2.2.2.2.2.2.2.2.2.2.2
set_option maxRecDepth 100000 in
theorem db_cX11_isSound_dX11_isSound_0_0 : (decode cX11_isSound 0 = .ok (.aload_n 0, 1)) ∧ (decode cX11_isSound 1 = .ok (.iconst 0, 1)) ∧ (decode cX11_isSound 2 = .ok (.putfield 22, 3)) ∧ (decode cX11_isSound 5 = .ok (.iconst 1, 1)) ∧ (decode cX11_isSound 6 = .ok (.ireturn, 1)) := by decide +kernel
def dX11_isSound_0 := db_cX11_isSound_dX11_isSound_0_0.1
def dX11_isSound_1 := db_cX11_isSound_dX11_isSound_0_0.2.1
def dX11_isSound_2 := db_cX11_isSound_dX11_isSound_0_0.2.2.1
def dX11_isSound_5 := db_cX11_isSound_dX11_isSound_0_0.2.2.2.1
def dX11_isSound_6 := db_cX11_isSound_dX11_isSound_0_0.2.2.2.2
set_option maxRecDepth 100000 in
theorem db_cX11_digest_dX11_digest_0_0 : (decode cX11_digest 0 = .ok (.ldc2_w 204, 3)) ∧ (decode cX11_digest 3 = .ok (.lstore_n 1, 1)) ∧ (decode cX11_digest 4 = .ok (.iconst 0, 1)) ∧ (decode cX11_digest 5 = .ok (.istore_n 3, 1)) ∧ (decode cX11_digest 6 = .ok (.iload_n 3, 1)) ∧ (decode cX11_digest 7 = .ok (.iconst 4, 1)) ∧ (decode cX11_digest 8 = .ok (.if_icmp .ge 83, 3)) ∧ (decode cX11_digest 11 = .ok (.iconst 0, 1)) ∧ (decode cX11_digest 12 = .ok (.istore 4, 2)) ∧ (decode cX11_digest 14 = .ok (.iload 4, 2)) ∧ (decode cX11_digest 16 = .ok (.iconst 5, 1)) ∧ (decode cX11_digest 17 = .ok (.if_icmp .ge 24, 3)) := by decide +kernel
def dX11_digest_0 := db_cX11_digest_dX11_digest_0_0.1
def dX11_digest_3 := db_cX11_digest_dX11_digest_0_0.2.1
def dX11_digest_4 := db_cX11_digest_dX11_digest_0_0.2.2.1
def dX11_digest_5 := db_cX11_digest_dX11_digest_0_0.2.2.2.1
def dX11_digest_6 := db_cX11_digest_dX11_digest_0_0.2.2.2.2.1
def dX11_digest_7 := db_cX11_digest_dX11_digest_0_0.2.2.2.2.2.1
def dX11_digest_8 := db_cX11_digest_dX11_digest_0_0.2.2.2.2.2.2.1
def dX11_digest_11 := db_cX11_digest_dX11_digest_0_0.2.2.2.2.2.2.2.1
def dX11_digest_12 := db_cX11_digest_dX11_digest_0_0.2.2.2.2.2.2.2.2.1
def dX11_digest_14 := db_cX11_digest_dX11_digest_0_0.2.2.2.2.2.2.2.2.2.1
def dX11_digest_16 := db_cX11_digest_dX11_digest_0_0.2.2.2.2.2.2.2.2.2.2.1
def dX11_digest_17 := db_cX11_digest_dX11_digest_0_0.2.2.2.2.2.2.2.2.2.2.2
set_option maxRecDepth 100000 in
theorem db_cX11_digest_dX11_digest_20_1 : (decode cX11_digest 20 = .ok (.lload_n 1, 1)) ∧ (decode cX11_digest 21 = .ok (.ldc2_w 206, 3)) ∧ (decode cX11_digest 24 = .ok (.lmul, 1)) ∧ (decode cX11_digest 25 = .ok (.aload_n 0, 1)) ∧ (decode cX11_digest 26 = .ok (.iload_n 3, 1)) ∧ (decode cX11_digest 27 = .ok (.iload 4, 2)) ∧ (decode cX11_digest 29 = .ok (.invokevirtual 208, 3)) ∧ (decode cX11_digest 32 = .ok (.i2l, 1)) ∧ (decode cX11_digest 33 = .ok (.ladd, 1)) ∧ (decode cX11_digest 34 = .ok (.lstore_n 1, 1)) ∧ (decode cX11_digest 35 = .ok (.iinc 4 1, 3)) ∧ (decode cX11_digest 38 = .ok (.goto (-24), 3)) := by decide +kernel
def dX11_digest_20 := db_cX11_digest_dX11_digest_20_1.1
def dX11_digest_21 := db_cX11_digest_dX11_digest_20_1.2.1
def dX11_digest_24 := db_cX11_digest_dX11_digest_20_1.2.2.1
def dX11_digest_25 := db_cX11_digest_dX11_digest_20_1.2.2.2.1
def dX11_digest_26 := db_cX11_digest_dX11_digest_20_1.2.2.2.2.1
def dX11_digest_27 := db_cX11_digest_dX11_digest_20_1.2.2.2.2.2.1
def dX11_digest_29 := db_cX11_digest_dX11_digest_20_1.2.2.2.2.2.2.1
def dX11_digest_32 := db_cX11_digest_dX11_digest_20_1.2.2.2.2.2.2.2.1
def dX11_digest_33 := db_cX11_digest_dX11_digest_20_1.2.2.2.2.2.2.2.2.1
def dX11_digest_34 := db_cX11_digest_dX11_digest_20_1.2.2.2.2.2.2.2.2.2.1
def dX11_digest_35 := db_cX11_digest_dX11_digest_20_1.2.2.2.2.2.2.2.2.2.2.1
def dX11_digest_38 := db_cX11_digest_dX11_digest_20_1.2.2.2.2.2.2.2.2.2.2.2
set_option maxRecDepth 100000 in
theorem db_cX11_digest_dX11_digest_41_2 : (decode cX11_digest 41 = .ok (.iconst 0, 1)) ∧ (decode cX11_digest 42 = .ok (.istore 4, 2)) ∧ (decode cX11_digest 44 = .ok (.iload 4, 2)) ∧ (decode cX11_digest 46 = .ok (.aload_n 0, 1)) ∧ (decode cX11_digest 47 = .ok (.getfield 7, 3)) ∧ (decode cX11_digest 50 = .ok (.iload_n 3, 1)) ∧ (decode cX11_digest 51 = .ok (.iaload, 1)) ∧ (decode cX11_digest 52 = .ok (.iconst 3, 1)) ∧ (decode cX11_digest 53 = .ok (.imul, 1)) ∧ (decode cX11_digest 54 = .ok (.if_icmp .ge 31, 3)) ∧ (decode cX11_digest 57 = .ok (.lload_n 1, 1)) ∧ (decode cX11_digest 58 = .ok (.ldc2_w 206, 3)) := by decide +kernel
def dX11_digest_41 := db_cX11_digest_dX11_digest_41_2.1
def dX11_digest_42 := db_cX11_digest_dX11_digest_41_2.2.1
def dX11_digest_44 := db_cX11_digest_dX11_digest_41_2.2.2.1
def dX11_digest_46 := db_cX11_digest_dX11_digest_41_2.2.2.2.1
def dX11_digest_47 := db_cX11_digest_dX11_digest_41_2.2.2.2.2.1
def dX11_digest_50 := db_cX11_digest_dX11_digest_41_2.2.2.2.2.2.1
def dX11_digest_51 := db_cX11_digest_dX11_digest_41_2.2.2.2.2.2.2.1
def dX11_digest_52 := db_cX11_digest_dX11_digest_41_2.2.2.2.2.2.2.2.1
def dX11_digest_53 := db_cX11_digest_dX11_digest_41_2.2.2.2.2.2.2.2.2.1
def dX11_digest_54 := db_cX11_digest_dX11_digest_41_2.2.2.2.2.2.2.2.2.2.1
def dX11_digest_57 := db_cX11_digest_dX11_digest_41_2.2.2.2.2.2.2.2.2.2.2.1
def dX11_digest_58 := db_cX11_digest_dX11_digest_41_2.2.2.2.2.2.2.2.2.2.2.2
set_option maxRecDepth 100000 in
theorem db_cX11_digest_dX11_digest_61_3 : (decode cX11_digest 61 = .ok (.lmul, 1)) ∧ (decode cX11_digest 62 = .ok (.aload_n 0, 1)) ∧ (decode cX11_digest 63 = .ok (.getfield 19, 3)) ∧ (decode cX11_digest 66 = .ok (.iload_n 3, 1)) ∧ (decode cX11_digest 67 = .ok (.iconst 0, 1)) ∧ (decode cX11_digest 68 = .ok (.iconst 0, 1)) ∧ (decode cX11_digest 69 = .ok (.invokestatic 36, 3)) ∧ (decode cX11_digest 72 = .ok (.iload 4, 2)) ∧ (decode cX11_digest 74 = .ok (.iadd, 1)) ∧ (decode cX11_digest 75 = .ok (.iaload, 1)) ∧ (decode cX11_digest 76 = .ok (.i2l, 1)) ∧ (decode cX11_digest 77 = .ok (.ladd, 1)) := by decide +kernel
def dX11_digest_61 := db_cX11_digest_dX11_digest_61_3.1
def dX11_digest_62 := db_cX11_digest_dX11_digest_61_3.2.1
def dX11_digest_63 := db_cX11_digest_dX11_digest_61_3.2.2.1
def dX11_digest_66 := db_cX11_digest_dX11_digest_61_3.2.2.2.1
def dX11_digest_67 := db_cX11_digest_dX11_digest_61_3.2.2.2.2.1
def dX11_digest_68 := db_cX11_digest_dX11_digest_61_3.2.2.2.2.2.1
def dX11_digest_69 := db_cX11_digest_dX11_digest_61_3.2.2.2.2.2.2.1
def dX11_digest_72 := db_cX11_digest_dX11_digest_61_3.2.2.2.2.2.2.2.1
def dX11_digest_74 := db_cX11_digest_dX11_digest_61_3.2.2.2.2.2.2.2.2.1
def dX11_digest_75 := db_cX11_digest_dX11_digest_61_3.2.2.2.2.2.2.2.2.2.1
def dX11_digest_76 := db_cX11_digest_dX11_digest_61_3.2.2.2.2.2.2.2.2.2.2.1
def dX11_digest_77 := db_cX11_digest_dX11_digest_61_3.2.2.2.2.2.2.2.2.2.2.2
set_option maxRecDepth 100000 in
theorem db_cX11_digest_dX11_digest_78_4 : (decode cX11_digest 78 = .ok (.lstore_n 1, 1)) ∧ (decode cX11_digest 79 = .ok (.iinc 4 1, 3)) ∧ (decode cX11_digest 82 = .ok (.goto (-38), 3)) ∧ (decode cX11_digest 85 = .ok (.iinc 3 1, 3)) ∧ (decode cX11_digest 88 = .ok (.goto (-82), 3)) ∧ (decode cX11_digest 91 = .ok (.aload_n 0, 1)) ∧ (decode cX11_digest 92 = .ok (.iconst 0, 1)) ∧ (decode cX11_digest 93 = .ok (.putfield 22, 3)) ∧ (decode cX11_digest 96 = .ok (.lload_n 1, 1)) ∧ (decode cX11_digest 97 = .ok (.ldc2_w 206, 3)) ∧ (decode cX11_digest 100 = .ok (.lmul, 1)) ∧ (decode cX11_digest 101 = .ok (.aload_n 0, 1)) := by decide +kernel
def dX11_digest_78 := db_cX11_digest_dX11_digest_78_4.1
def dX11_digest_79 := db_cX11_digest_dX11_digest_78_4.2.1
def dX11_digest_82 := db_cX11_digest_dX11_digest_78_4.2.2.1
def dX11_digest_85 := db_cX11_digest_dX11_digest_78_4.2.2.2.1
def dX11_digest_88 := db_cX11_digest_dX11_digest_78_4.2.2.2.2.1
def dX11_digest_91 := db_cX11_digest_dX11_digest_78_4.2.2.2.2.2.1
def dX11_digest_92 := db_cX11_digest_dX11_digest_78_4.2.2.2.2.2.2.1
def dX11_digest_93 := db_cX11_digest_dX11_digest_78_4.2.2.2.2.2.2.2.1
def dX11_digest_96 := db_cX11_digest_dX11_digest_78_4.2.2.2.2.2.2.2.2.1
def dX11_digest_97 := db_cX11_digest_dX11_digest_78_4.2.2.2.2.2.2.2.2.2.1
def dX11_digest_100 := db_cX11_digest_dX11_digest_78_4.2.2.2.2.2.2.2.2.2.2.1
def dX11_digest_101 := db_cX11_digest_dX11_digest_78_4.2.2.2.2.2.2.2.2.2.2.2
set_option maxRecDepth 100000 in
theorem db_cX11_digest_dX11_digest_102_5 : (decode cX11_digest 102 = .ok (.getfield 30, 3)) ∧ (decode cX11_digest 105 = .ok (.i2l, 1)) ∧ (decode cX11_digest 106 = .ok (.ladd, 1)) ∧ (decode cX11_digest 107 = .ok (.ldc2_w 206, 3)) ∧ (decode cX11_digest 110 = .ok (.lmul, 1)) ∧ (decode cX11_digest 111 = .ok (.aload_n 0, 1)) ∧ (decode cX11_digest 112 = .ok (.getfield 33, 3)) ∧ (decode cX11_digest 115 = .ok (.i2l, 1)) ∧ (decode cX11_digest 116 = .ok (.ladd, 1)) ∧ (decode cX11_digest 117 = .ok (.ldc2_w 206, 3)) ∧ (decode cX11_digest 120 = .ok (.lmul, 1)) ∧ (decode cX11_digest 121 = .ok (.aload_n 0, 1)) := by decide +kernel
def dX11_digest_102 := db_cX11_digest_dX11_digest_102_5.1
def dX11_digest_105 := db_cX11_digest_dX11_digest_102_5.2.1
def dX11_digest_106 := db_cX11_digest_dX11_digest_102_5.2.2.1
def dX11_digest_107 := db_cX11_digest_dX11_digest_102_5.2.2.2.1
def dX11_digest_110 := db_cX11_digest_dX11_digest_102_5.2.2.2.2.1
def dX11_digest_111 := db_cX11_digest_dX11_digest_102_5.2.2.2.2.2.1
def dX11_digest_112 := db_cX11_digest_dX11_digest_102_5.2.2.2.2.2.2.1
def dX11_digest_115 := db_cX11_digest_dX11_digest_102_5.2.2.2.2.2.2.2.1
def dX11_digest_116 := db_cX11_digest_dX11_digest_102_5.2.2.2.2.2.2.2.2.1
def dX11_digest_117 := db_cX11_digest_dX11_digest_102_5.2.2.2.2.2.2.2.2.2.1
def dX11_digest_120 := db_cX11_digest_dX11_digest_102_5.2.2.2.2.2.2.2.2.2.2.1
def dX11_digest_121 := db_cX11_digest_dX11_digest_102_5.2.2.2.2.2.2.2.2.2.2.2
set_option maxRecDepth 100000 in
theorem db_cX11_digest_dX11_digest_122_6 : (decode cX11_digest 122 = .ok (.getfield 201, 3)) ∧ (decode cX11_digest 125 = .ok (.i2l, 1)) ∧ (decode cX11_digest 126 = .ok (.ladd, 1)) ∧ (decode cX11_digest 127 = .ok (.lstore_n 1, 1)) ∧ (decode cX11_digest 128 = .ok (.lload_n 1, 1)) ∧ (decode cX11_digest 129 = .ok (.ldc2_w 206, 3)) ∧ (decode cX11_digest 132 = .ok (.lmul, 1)) ∧ (decode cX11_digest 133 = .ok (.lconst 1, 1)) ∧ (decode cX11_digest 134 = .ok (.ladd, 1)) ∧ (decode cX11_digest 135 = .ok (.lreturn, 1)) := by decide +kernel
def dX11_digest_122 := db_cX11_digest_dX11_digest_122_6.1
def dX11_digest_125 := db_cX11_digest_dX11_digest_122_6.2.1
def dX11_digest_126 := db_cX11_digest_dX11_digest_122_6.2.2.1
def dX11_digest_127 := db_cX11_digest_dX11_digest_122_6.2.2.2.1
def dX11_digest_128 := db_cX11_digest_dX11_digest_122_6.2.2.2.2.1
def dX11_digest_129 := db_cX11_digest_dX11_digest_122_6.2.2.2.2.2.1
def dX11_digest_132 := db_cX11_digest_dX11_digest_122_6.2.2.2.2.2.2.1
def dX11_digest_133 := db_cX11_digest_dX11_digest_122_6.2.2.2.2.2.2.2.1
def dX11_digest_134 := db_cX11_digest_dX11_digest_122_6.2.2.2.2.2.2.2.2.1
def dX11_digest_135 := db_cX11_digest_dX11_digest_122_6.2.2.2.2.2.2.2.2.2
theorem hd_78 : (yX11_isIn : MethodName).cls ≠ "java/lang/invoke/MethodHandle" ∧ (yX11_isIn : MethodName).cls ≠ "java/lang/invoke/VarHandle" ∧ (parseMethodDescriptor (yX11_isIn : MethodName).desc).map (fun d => d.parameters.length) = some 3 := by decide +kernel
theorem hd_79 : (yX11_key : MethodName).cls ≠ "java/lang/invoke/MethodHandle" ∧ (yX11_key : MethodName).cls ≠ "java/lang/invoke/VarHandle" ∧ (parseMethodDescriptor (yX11_key : MethodName).desc).map (fun d => d.parameters.length) = some 3 := by decide +kernel
theorem hd_80 : (yX11_next : MethodName).cls ≠ "java/lang/invoke/MethodHandle" ∧ (yX11_next : MethodName).cls ≠ "java/lang/invoke/VarHandle" ∧ (parseMethodDescriptor (yX11_next : MethodName).desc).map (fun d => d.parameters.length) = some 5 := by decide +kernel
theorem hd_81 : (yX11_part : MethodName).cls ≠ "java/lang/invoke/MethodHandle" ∧ (yX11_part : MethodName).cls ≠ "java/lang/invoke/VarHandle" ∧ (parseMethodDescriptor (yX11_part : MethodName).desc).map (fun d => d.parameters.length) = some 2 := by decide +kernel
theorem hd_82 : (yX11_arrowsAll : MethodName).cls ≠ "java/lang/invoke/MethodHandle" ∧ (yX11_arrowsAll : MethodName).cls ≠ "java/lang/invoke/VarHandle" ∧ (parseMethodDescriptor (yX11_arrowsAll : MethodName).desc).map (fun d => d.parameters.length) = some 1 := by decide +kernel
theorem hd_83 : (yX11_oneWay : MethodName).cls ≠ "java/lang/invoke/MethodHandle" ∧ (yX11_oneWay : MethodName).cls ≠ "java/lang/invoke/VarHandle" ∧ (parseMethodDescriptor (yX11_oneWay : MethodName).desc).map (fun d => d.parameters.length) = some 5 := by decide +kernel
theorem hd_84 : (yX11_isLike : MethodName).cls ≠ "java/lang/invoke/MethodHandle" ∧ (yX11_isLike : MethodName).cls ≠ "java/lang/invoke/VarHandle" ∧ (parseMethodDescriptor (yX11_isLike : MethodName).desc).map (fun d => d.parameters.length) = some 4 := by decide +kernel
theorem hd_85 : (yX11_alike : MethodName).cls ≠ "java/lang/invoke/MethodHandle" ∧ (yX11_alike : MethodName).cls ≠ "java/lang/invoke/VarHandle" ∧ (parseMethodDescriptor (yX11_alike : MethodName).desc).map (fun d => d.parameters.length) = some 1 := by decide +kernel
theorem hd_86 : (yX11_oneWay_ : MethodName).cls ≠ "java/lang/invoke/MethodHandle" ∧ (yX11_oneWay_ : MethodName).cls ≠ "java/lang/invoke/VarHandle" ∧ (parseMethodDescriptor (yX11_oneWay_ : MethodName).desc).map (fun d => d.parameters.length) = some 1 := by decide +kernel
theorem hd_87 : (yX11_least : MethodName).cls ≠ "java/lang/invoke/MethodHandle" ∧ (yX11_least : MethodName).cls ≠ "java/lang/invoke/VarHandle" ∧ (parseMethodDescriptor (yX11_least : MethodName).desc).map (fun d => d.parameters.length) = some 1 := by decide +kernel
theorem hd_88 : (yX11_turnedTwice : MethodName).cls ≠ "java/lang/invoke/MethodHandle" ∧ (yX11_turnedTwice : MethodName).cls ≠ "java/lang/invoke/VarHandle" ∧ (parseMethodDescriptor (yX11_turnedTwice : MethodName).desc).map (fun d => d.parameters.length) = some 1 := by decide +kernel
theorem hd_89 : (yX11_isUnlike : MethodName).cls ≠ "java/lang/invoke/MethodHandle" ∧ (yX11_isUnlike : MethodName).cls ≠ "java/lang/invoke/VarHandle" ∧ (parseMethodDescriptor (yX11_isUnlike : MethodName).desc).map (fun d => d.parameters.length) = some 3 := by decide +kernel
theorem hd_90 : (yX11_met : MethodName).cls ≠ "java/lang/invoke/MethodHandle" ∧ (yX11_met : MethodName).cls ≠ "java/lang/invoke/VarHandle" ∧ (parseMethodDescriptor (yX11_met : MethodName).desc).map (fun d => d.parameters.length) = some 4 := by decide +kernel
theorem hd_91 : (yX11_isOne : MethodName).cls ≠ "java/lang/invoke/MethodHandle" ∧ (yX11_isOne : MethodName).cls ≠ "java/lang/invoke/VarHandle" ∧ (parseMethodDescriptor (yX11_isOne : MethodName).desc).map (fun d => d.parameters.length) = some 1 := by decide +kernel
theorem hd_92 : (yX11_isThrown : MethodName).cls ≠ "java/lang/invoke/MethodHandle" ∧ (yX11_isThrown : MethodName).cls ≠ "java/lang/invoke/VarHandle" ∧ (parseMethodDescriptor (yX11_isThrown : MethodName).desc).map (fun d => d.parameters.length) = some 2 := by decide +kernel
theorem hd_93 : (yX11_arrowsOf : MethodName).cls ≠ "java/lang/invoke/MethodHandle" ∧ (yX11_arrowsOf : MethodName).cls ≠ "java/lang/invoke/VarHandle" ∧ (parseMethodDescriptor (yX11_arrowsOf : MethodName).desc).map (fun d => d.parameters.length) = some 1 := by decide +kernel
theorem hd_94 : (yX11_clear : MethodName).cls ≠ "java/lang/invoke/MethodHandle" ∧ (yX11_clear : MethodName).cls ≠ "java/lang/invoke/VarHandle" ∧ (parseMethodDescriptor (yX11_clear : MethodName).desc).map (fun d => d.parameters.length) = some 2 := by decide +kernel
theorem hd_95 : (yX11_did : MethodName).cls ≠ "java/lang/invoke/MethodHandle" ∧ (yX11_did : MethodName).cls ≠ "java/lang/invoke/VarHandle" ∧ (parseMethodDescriptor (yX11_did : MethodName).desc).map (fun d => d.parameters.length) = some 1 := by decide +kernel
theorem hd_96 : (yX11_isState : MethodName).cls ≠ "java/lang/invoke/MethodHandle" ∧ (yX11_isState : MethodName).cls ≠ "java/lang/invoke/VarHandle" ∧ (parseMethodDescriptor (yX11_isState : MethodName).desc).map (fun d => d.parameters.length) = some 2 := by decide +kernel
theorem hd_97 : (yX11_isNoArrow : MethodName).cls ≠ "java/lang/invoke/MethodHandle" ∧ (yX11_isNoArrow : MethodName).cls ≠ "java/lang/invoke/VarHandle" ∧ (parseMethodDescriptor (yX11_isNoArrow : MethodName).desc).map (fun d => d.parameters.length) = some 4 := by decide +kernel
theorem hd_98 : (yX11_isSame : MethodName).cls ≠ "java/lang/invoke/MethodHandle" ∧ (yX11_isSame : MethodName).cls ≠ "java/lang/invoke/VarHandle" ∧ (parseMethodDescriptor (yX11_isSame : MethodName).desc).map (fun d => d.parameters.length) = some 2 := by decide +kernel
theorem hd_99 : (yX11_exchange : MethodName).cls ≠ "java/lang/invoke/MethodHandle" ∧ (yX11_exchange : MethodName).cls ≠ "java/lang/invoke/VarHandle" ∧ (parseMethodDescriptor (yX11_exchange : MethodName).desc).map (fun d => d.parameters.length) = some 3 := by decide +kernel
theorem hd_100 : (yX11_isPlain : MethodName).cls ≠ "java/lang/invoke/MethodHandle" ∧ (yX11_isPlain : MethodName).cls ≠ "java/lang/invoke/VarHandle" ∧ (parseMethodDescriptor (yX11_isPlain : MethodName).desc).map (fun d => d.parameters.length) = some 1 := by decide +kernel
theorem hd_101 : (yX11_refuse : MethodName).cls ≠ "java/lang/invoke/MethodHandle" ∧ (yX11_refuse : MethodName).cls ≠ "java/lang/invoke/VarHandle" ∧ (parseMethodDescriptor (yX11_refuse : MethodName).desc).map (fun d => d.parameters.length) = some 0 := by decide +kernel
theorem hd_102 : (yX11_without : MethodName).cls ≠ "java/lang/invoke/MethodHandle" ∧ (yX11_without : MethodName).cls ≠ "java/lang/invoke/VarHandle" ∧ (parseMethodDescriptor (yX11_without : MethodName).desc).map (fun d => d.parameters.length) = some 2 := by decide +kernel
theorem hd_103 : (yX11_found : MethodName).cls ≠ "java/lang/invoke/MethodHandle" ∧ (yX11_found : MethodName).cls ≠ "java/lang/invoke/VarHandle" ∧ (parseMethodDescriptor (yX11_found : MethodName).desc).map (fun d => d.parameters.length) = some 2 := by decide +kernel
theorem hd_104 : (yX11_become : MethodName).cls ≠ "java/lang/invoke/MethodHandle" ∧ (yX11_become : MethodName).cls ≠ "java/lang/invoke/VarHandle" ∧ (parseMethodDescriptor (yX11_become : MethodName).desc).map (fun d => d.parameters.length) = some 2 := by decide +kernel
theorem hd_105 : (yX11_both : MethodName).cls ≠ "java/lang/invoke/MethodHandle" ∧ (yX11_both : MethodName).cls ≠ "java/lang/invoke/VarHandle" ∧ (parseMethodDescriptor (yX11_both : MethodName).desc).map (fun d => d.parameters.length) = some 3 := by decide +kernel
theorem hd_106 : (yX11_power : MethodName).cls ≠ "java/lang/invoke/MethodHandle" ∧ (yX11_power : MethodName).cls ≠ "java/lang/invoke/VarHandle" ∧ (parseMethodDescriptor (yX11_power : MethodName).desc).map (fun d => d.parameters.length) = some 1 := by decide +kernel
theorem hd_107 : (yX11_isWord : MethodName).cls ≠ "java/lang/invoke/MethodHandle" ∧ (yX11_isWord : MethodName).cls ≠ "java/lang/invoke/VarHandle" ∧ (parseMethodDescriptor (yX11_isWord : MethodName).desc).map (fun d => d.parameters.length) = some 2 := by decide +kernel
theorem hd_108 : (yX11_setAfter : MethodName).cls ≠ "java/lang/invoke/MethodHandle" ∧ (yX11_setAfter : MethodName).cls ≠ "java/lang/invoke/VarHandle" ∧ (parseMethodDescriptor (yX11_setAfter : MethodName).desc).map (fun d => d.parameters.length) = some 3 := by decide +kernel
theorem hd_109 : (yX11_isCrowded : MethodName).cls ≠ "java/lang/invoke/MethodHandle" ∧ (yX11_isCrowded : MethodName).cls ≠ "java/lang/invoke/VarHandle" ∧ (parseMethodDescriptor (yX11_isCrowded : MethodName).desc).map (fun d => d.parameters.length) = some 2 := by decide +kernel
theorem hd_110 : (yX11_isReached : MethodName).cls ≠ "java/lang/invoke/MethodHandle" ∧ (yX11_isReached : MethodName).cls ≠ "java/lang/invoke/VarHandle" ∧ (parseMethodDescriptor (yX11_isReached : MethodName).desc).map (fun d => d.parameters.length) = some 2 := by decide +kernel
theorem hd_111 : (yX11_ways : MethodName).cls ≠ "java/lang/invoke/MethodHandle" ∧ (yX11_ways : MethodName).cls ≠ "java/lang/invoke/VarHandle" ∧ (parseMethodDescriptor (yX11_ways : MethodName).desc).map (fun d => d.parameters.length) = some 2 := by decide +kernel
theorem hd_112 : (yX11_pairsOf : MethodName).cls ≠ "java/lang/invoke/MethodHandle" ∧ (yX11_pairsOf : MethodName).cls ≠ "java/lang/invoke/VarHandle" ∧ (parseMethodDescriptor (yX11_pairsOf : MethodName).desc).map (fun d => d.parameters.length) = some 2 := by decide +kernel
theorem hd_113 : (yX11_isApart : MethodName).cls ≠ "java/lang/invoke/MethodHandle" ∧ (yX11_isApart : MethodName).cls ≠ "java/lang/invoke/VarHandle" ∧ (parseMethodDescriptor (yX11_isApart : MethodName).desc).map (fun d => d.parameters.length) = some 3 := by decide +kernel
theorem hd_114 : (yX11_tell : MethodName).cls ≠ "java/lang/invoke/MethodHandle" ∧ (yX11_tell : MethodName).cls ≠ "java/lang/invoke/VarHandle" ∧ (parseMethodDescriptor (yX11_tell : MethodName).desc).map (fun d => d.parameters.length) = some 2 := by decide +kernel
end
