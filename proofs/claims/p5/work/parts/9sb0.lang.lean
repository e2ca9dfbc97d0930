section SIML
variable {A B : AM} {D D0 D1 D2 : DF} {n : Nat}
/-! words, and which of them are taken -/
def SG (u : List Nat) : Prop := ∀ s ∈ u, s < 3
theorem SG.tl {s : Nat} {u : List Nat} (h : SG (s :: u)) : SG u := fun x hx => h x (List.mem_cons_of_mem _ hx)
theorem SG.hd {s : Nat} {u : List Nat} (h : SG (s :: u)) : s < 3 := h s (List.mem_cons_self ..)
theorem SG.rev {u : List Nat} (h : SG u) : SG u.reverse := fun x hx => h x (List.mem_reverse.mp hx)
theorem SG.snoc {s : Nat} {u : List Nat} (h : SG u) (hs : s < 3) : SG (u ++ [s]) := fun x hx => by
  rcases List.mem_append.mp hx with z | z
  · exact h x z
  · simp at z; omega
def DRn (f : Nat → Nat → Nat) : Nat → List Nat → Nat
  | x, [] => x
  | x, s :: u => DRn f (f x s) u
theorem DRn_app {f : Nat → Nat → Nat} : ∀ (u v : List Nat) (x : Nat), DRn f x (u ++ v) = DRn f (DRn f x u) v := by
  intro u
  induction u with
  | nil => intro v x; rfl
  | cons s u ih => intro v x; exact ih v (f x s)
/-- a state of a one-way machine takes a word -/
def LSs (D : DF) (x : Nat) (u : List Nat) : Prop := D.2.2 (DRn (DW D) x u) = true
def TBl (D : DF) : Prop := 1 ≤ D.1 ∧ ∀ j, j < 3 * D.1 → D.2.1 j < D.1
theorem TBl.dw (h : TBl D) {x s : Nat} (hx : x < D.1) (hs : s < 3) : DW D x s < D.1 := h.2 _ (by omega)
theorem TBl.run (h : TBl D) : ∀ (u : List Nat) (x : Nat), SG u → x < D.1 → DRn (DW D) x u < D.1 := by
  intro u
  induction u with
  | nil => intro x _ hx; exact hx
  | cons s u ih => intro x hu hx; exact ih _ hu.tl (h.dw hx hu.hd)
/-- the parts are the words taken -/
theorem PL_LS (h : TBl D) : ∀ (u : List Nat) (x y : Nat), SG u → x < D.1 → y < D.1 → PL D x = PL D y → (LSs D x u ↔ LSs D y u) := by
  intro u
  induction u with
  | nil => intro x y _ hx hy e; unfold LSs DRn; rw [((PL_stb h.2 h.1 hx hy).mp e).1]
  | cons s u ih => intro x y hu hx hy e; exact ih _ _ hu.tl (h.dw hx hu.hd) (h.dw hy hu.hd) (((PL_stb h.2 h.1 hx hy).mp e).2.2 s hu.hd)
theorem LS_PRT (h : TBl D) : ∀ (t x y : Nat), x < D.1 → y < D.1 → (∀ u, SG u → (LSs D x u ↔ LSs D y u)) → PRT D t x = PRT D t y := by
  intro t
  induction t with
  | zero =>
    intro x y hx hy hl
    refine PRT_0.mpr ?_
    have := hl [] (fun _ hs => nomatch hs)
    unfold LSs DRn at this
    exact Bool.eq_iff_iff.mpr this
  | succ t ih =>
    intro x y hx hy hl
    exact PRT_s.mpr ⟨ih x y hx hy hl, fun s hs => ih _ _ (h.dw hx hs) (h.dw hy hs) (fun u hu => hl (s :: u) (fun z hz => by
      rcases List.mem_cons.mp hz with e | e
      · omega
      · exact hu z e))⟩
theorem LS_PL (h : TBl D) {x y : Nat} (hx : x < D.1) (hy : y < D.1) (hl : ∀ u, SG u → (LSs D x u ↔ LSs D y u)) : PL D x = PL D y := LS_PRT h D.1 x y hx hy hl
/-! what holds of an exploring's end -/
def NDp (L : List Nat) : Prop := ∀ i j, i < L.length → j < L.length → L.getD i 0 = L.getD j 0 → i = j
theorem NDp.snoc {L : List Nat} {x : Nat} (h : NDp L) (hx : x ∉ L) : NDp (L ++ [x]) := fun i j hi hj e => by
  rw [List.length_append] at hi hj
  simp only [List.length_cons, List.length_nil] at hi hj
  by_cases e1 : i < L.length
  · rw [getD_app e1] at e
    by_cases e2 : j < L.length
    · rw [getD_app e2] at e; exact h i j e1 e2 e
    · rw [show j = L.length by omega, getD_new] at e
      exact absurd (e ▸ getD_mem e1) hx
  · rw [show i = L.length by omega, getD_new] at e
    by_cases e2 : j < L.length
    · rw [getD_app e2] at e
      exact absurd (e ▸ getD_mem e2) hx
    · omega
theorem EXs_nd {lim : Nat} {f : Nat → Nat → Nat} {u : Nat → Bool} {L' T' : List Nat} : ∀ (k : Nat) (L T : List Nat), NDp L → EXs lim f u k L T = some (L', T') → NDp L' := by
  intro k
  induction k with
  | zero => intro L T _ h; cases h
  | succ k ih =>
    intro L T hL h
    rw [EXs] at h
    by_cases hd : 3 * L.length ≤ T.length ∨ u (L.getD (L.length - 1) 0) = true
    · rw [if_pos hd] at h; cases h; exact hL
    · rw [if_neg hd] at h
      by_cases hm : nxt f L T ∈ L
      · rw [if_pos hm] at h; exact ih _ _ hL h
      · rw [if_neg hm] at h
        by_cases hl : lim ≤ L.length
        · rw [if_pos hl] at h; cases h
        · rw [if_neg hl] at h; exact ih _ _ (hL.snoc hm) h
theorem EX_nd {lim x0 : Nat} {f : Nat → Nat → Nat} {u : Nat → Bool} {L T : List Nat} (h : EX lim f u x0 = some (L, T)) : NDp L := EXs_nd _ _ _ (fun i j hi hj _ => by simp at hi hj; omega) h
theorem EXs_all {lim : Nat} {f : Nat → Nat → Nat} {u : Nat → Bool} {L' T' : List Nat} {P : Nat → Prop} (hf : ∀ x s, s < 3 → P x → P (f x s)) : ∀ (k : Nat) (L T : List Nat), (∀ i, i < L.length → P (L.getD i 0)) → EXs lim f u k L T = some (L', T') → ∀ i, i < L'.length → P (L'.getD i 0) := by
  intro k
  induction k with
  | zero => intro L T _ h; cases h
  | succ k ih =>
    intro L T hL h
    rw [EXs] at h
    by_cases hd : 3 * L.length ≤ T.length ∨ u (L.getD (L.length - 1) 0) = true
    · rw [if_pos hd] at h; cases h; exact hL
    · rw [if_neg hd] at h
      have h3 : ¬ 3 * L.length ≤ T.length := fun z => hd (Or.inl z)
      by_cases hm : nxt f L T ∈ L
      · rw [if_pos hm] at h; exact ih _ _ hL h
      · rw [if_neg hm] at h
        by_cases hl : lim ≤ L.length
        · rw [if_pos hl] at h; cases h
        · rw [if_neg hl] at h
          refine ih _ _ (fun i hi => ?_) h
          rw [List.length_append] at hi
          simp only [List.length_cons, List.length_nil] at hi
          by_cases e : i < L.length
          · rw [getD_app e]; exact hL i e
          · rw [show i = L.length by omega, getD_new]
            exact hf _ _ (Nat.mod_lt _ (by decide)) (hL _ (by omega))
theorem EX_all {lim x0 : Nat} {f : Nat → Nat → Nat} {u : Nat → Bool} {L T : List Nat} {P : Nat → Prop} (hf : ∀ x s, s < 3 → P x → P (f x s)) (h0 : P x0) (h : EX lim f u x0 = some (L, T)) : ∀ i, i < L.length → P (L.getD i 0) := EXs_all hf _ _ _ (fun i hi => by
  simp at hi
  subst hi
  exact h0) h
/-- each item is met from the first -/
theorem EXs_met {lim : Nat} {f : Nat → Nat → Nat} {u : Nat → Bool} {L' T' : List Nat} {x0 : Nat} (h : EX lim f u x0 = some (L', T')) : ∀ i, i < L'.length → ∃ v, SG v ∧ DRn f x0 v = L'.getD i 0 :=
  EX_all (P := fun y => ∃ v, SG v ∧ DRn f x0 v = y) (fun x s hs ⟨v, hv, e⟩ => ⟨v ++ [s], hv.snoc hs, by rw [DRn_app, e]; rfl⟩) ⟨[], (fun _ hs => nomatch hs), rfl⟩ h
/-- two explorings in step -/
theorem idx_min {x : Nat} : ∀ (l : List Nat) (i : Nat), i < l.idxOf x → l.getD i 0 ≠ x ∨ l.length ≤ i := by
  intro l
  induction l with
  | nil => intro i _; exact Or.inr (Nat.zero_le _)
  | cons a l ih =>
    intro i hi
    by_cases e : a = x
    · subst e
      simp at hi
    · rw [List.idxOf_cons] at hi
      simp only [beq_iff_eq, e, cond_false, Bool.cond_eq_ite, if_false] at hi
      cases i with
      | zero => exact Or.inl (by simpa using e)
      | succ i => exact (ih i (by omega)).imp (fun z => by simpa using z) (fun z => by simp; omega)
variable {R : Nat → Nat → Prop}
def PR2 (R : Nat → Nat → Prop) (L1 L2 : List Nat) : Prop := L1.length = L2.length ∧ ∀ i, i < L1.length → R (L1.getD i 0) (L2.getD i 0)
theorem PR2.idx {L1 L2 : List Nat} {x y : Nat} (h1 : ∀ a b a' b', R a b → R a' b' → (a = a' ↔ b = b')) (h : PR2 R L1 L2) (hR : R x y) : (x ∈ L1 ↔ y ∈ L2) ∧ (x ∈ L1 → L1.idxOf x = L2.idxOf y) := by
  obtain ⟨hl, hp⟩ := h
  have go : x ∈ L1 → L2.getD (L1.idxOf x) 0 = y ∧ ∀ j, j < L1.idxOf x → L2.getD j 0 ≠ y := fun hx => by
    have i1 := idx_lt hx
    have i2 := getD_idx hx
    refine ⟨(h1 _ _ _ _ (hp _ i1) hR).mp i2, fun j hj e => ?_⟩
    have e1 := (h1 _ _ _ _ (hp j (by omega)) hR).mpr e
    rcases idx_min L1 j hj with z | z
    · exact z e1
    · omega
  refine ⟨⟨fun hx => ?_, fun hy => ?_⟩, fun hx => ?_⟩
  · have i1 := idx_lt hx
    rw [← (go hx).1]
    exact getD_mem (by omega)
  · have i1 := idx_lt hy
    have i2 := getD_idx hy
    have := (h1 _ _ _ _ (hp (L2.idxOf y) (by omega)) hR).mpr i2
    rw [← this]
    exact getD_mem (by omega)
  · have i1 := idx_lt hx
    exact (idx_of (by omega) (go hx).1 (go hx).2).symm
def noU : Nat → Bool := fun _ => false
theorem EXs_lock {lim : Nat} {f1 f2 : Nat → Nat → Nat} (h1 : ∀ a b a' b', R a b → R a' b' → (a = a' ↔ b = b')) (hf : ∀ a b s, s < 3 → R a b → R (f1 a s) (f2 b s)) : ∀ (k : Nat) (L1 L2 T : List Nat), PR2 R L1 L2 → 1 ≤ L1.length →
    (EXs lim f1 noU k L1 T = none ∧ EXs lim f2 noU k L2 T = none) ∨ ∃ L1' L2' T', EXs lim f1 noU k L1 T = some (L1', T') ∧ EXs lim f2 noU k L2 T = some (L2', T') ∧ PR2 R L1' L2' := by
  intro k
  induction k with
  | zero => intro L1 L2 T _ _; exact Or.inl ⟨rfl, rfl⟩
  | succ k ih =>
    intro L1 L2 T hp hl
    rw [EXs, EXs]
    by_cases hd : 3 * L1.length ≤ T.length
    · rw [if_pos (Or.inl hd), if_pos (Or.inl (by rw [← hp.1]; exact hd))]
      exact Or.inr ⟨_, _, _, rfl, rfl, hp⟩
    · have c1 : ¬ (3 * L1.length ≤ T.length ∨ noU (L1.getD (L1.length - 1) 0) = true) := fun z => z.elim hd (fun w => by cases w)
      have c2 : ¬ (3 * L2.length ≤ T.length ∨ noU (L2.getD (L2.length - 1) 0) = true) := fun z => z.elim (by rw [← hp.1]; exact hd) (fun w => by cases w)
      rw [if_neg c1, if_neg c2]
      have hR : R (nxt f1 L1 T) (nxt f2 L2 T) := hf _ _ _ (Nat.mod_lt _ (by decide)) (hp.2 _ (by omega))
      obtain ⟨hm, hi⟩ := hp.idx h1 hR
      by_cases e : nxt f1 L1 T ∈ L1
      · rw [if_pos e, if_pos (hm.mp e), ← hi e]
        exact ih _ _ _ hp hl
      · have e' : ¬ nxt f2 L2 T ∈ L2 := fun z => e (hm.mpr z)
        rw [if_neg e, if_neg e', ← hp.1]
        by_cases e2 : lim ≤ L1.length
        · rw [if_pos e2, if_pos e2]; exact Or.inl ⟨rfl, rfl⟩
        · rw [if_neg e2, if_neg e2]
          refine ih _ _ _ ⟨by rw [List.length_append, List.length_append, hp.1]; rfl, fun i hi' => ?_⟩ (by rw [List.length_append]; omega)
          rw [List.length_append] at hi'
          simp only [List.length_cons, List.length_nil] at hi'
          by_cases e3 : i < L1.length
          · rw [getD_app e3, getD_app (by rw [← hp.1]; exact e3)]; exact hp.2 i e3
          · have e4 : i = L1.length := by omega
            rw [e4, getD_new, hp.1, getD_new]; exact hR
theorem EX_lock {lim x1 x2 : Nat} {f1 f2 : Nat → Nat → Nat} (h1 : ∀ a b a' b', R a b → R a' b' → (a = a' ↔ b = b')) (hf : ∀ a b s, s < 3 → R a b → R (f1 a s) (f2 b s)) (h0 : R x1 x2) : (EX lim f1 (fun _ => false) x1 = none ∧ EX lim f2 (fun _ => false) x2 = none) ∨ ∃ L1 L2 T, EX lim f1 (fun _ => false) x1 = some (L1, T) ∧ EX lim f2 (fun _ => false) x2 = some (L2, T) ∧ PR2 R L1 L2 :=
  EXs_lock h1 hf _ [x1] [x2] [] ⟨rfl, fun i hi => by
    simp at hi
    subst hi
    exact h0⟩ (Nat.le_refl 1)
end SIML
