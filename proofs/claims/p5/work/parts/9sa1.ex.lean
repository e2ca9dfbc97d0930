section SEX
/-! exploring: items in the sequence in which they are met; L the items, T the numbers that arrows lead to; at most lim items; it stops behind an item with u -/
def nxt (f : Nat → Nat → Nat) (L T : List Nat) : Nat := f (L.getD (T.length / 3) 0) (T.length % 3)
def EXs (lim : Nat) (f : Nat → Nat → Nat) (u : Nat → Bool) : Nat → List Nat → List Nat → Option (List Nat × List Nat)
  | 0, _, _ => none
  | k + 1, L, T =>
    if 3 * L.length ≤ T.length ∨ u (L.getD (L.length - 1) 0) = true then some (L, T)
    else if nxt f L T ∈ L then EXs lim f u k L (T ++ [L.idxOf (nxt f L T)])
    else if lim ≤ L.length then none
    else EXs lim f u k (L ++ [nxt f L T]) (T ++ [L.length])
def EX (lim : Nat) (f : Nat → Nat → Nat) (u : Nat → Bool) (x0 : Nat) : Option (List Nat × List Nat) := EXs lim f u (3 * lim + 1) [x0] []
variable {lim : Nat} {f : Nat → Nat → Nat} {u : Nat → Bool} {L T : List Nat} {R : Option (List Nat × List Nat)}
/-- where the exploring stands -/
def EI (lim : Nat) (f : Nat → Nat → Nat) (u : Nat → Bool) (R : Option (List Nat × List Nat)) (L T : List Nat) : Prop := EXs lim f u (3 * lim + 1 - T.length) L T = R ∧ L.length ≤ lim ∧ 1 ≤ L.length ∧ T.length ≤ 3 * L.length ∧ (∀ p, p < T.length → T.getD p 0 < L.length ∧ L.getD (T.getD p 0) 0 = f (L.getD (p / 3) 0) (p % 3))
theorem EI.start (x0 : Nat) (h : 1 ≤ lim) : EI lim f u (EX lim f u x0) [x0] [] := ⟨rfl, h, Nat.le_refl 1, Nat.zero_le _, fun p hp => absurd hp (Nat.not_lt_zero _)⟩
theorem EI.fuel (h : EI lim f u R L T) : 3 * lim + 1 - T.length = (3 * lim - T.length) + 1 := by
  have h1 := h.2.1
  have h2 := h.2.2.2.1
  omega
theorem EI.done (h : EI lim f u R L T) (hd : 3 * L.length ≤ T.length ∨ u (L.getD (L.length - 1) 0) = true) : R = some (L, T) := by
  rw [← h.1, h.fuel, EXs, if_pos hd]
theorem getD_app {L : List Nat} {x i : Nat} (h : i < L.length) : (L ++ [x]).getD i 0 = L.getD i 0 := by
  rw [List.getD_eq_getElem?_getD, List.getD_eq_getElem?_getD, List.getElem?_append_left h]
theorem getD_new {L : List Nat} {x : Nat} : (L ++ [x]).getD L.length 0 = x := by
  rw [List.getD_eq_getElem?_getD, List.getElem?_append_right (Nat.le_refl _)]
  simp
theorem getD_mem {L : List Nat} {i : Nat} (h : i < L.length) : L.getD i 0 ∈ L := by
  rw [List.getD_eq_getElem?_getD, List.getElem?_eq_getElem h]
  exact List.getElem_mem h
theorem getD_idx {L : List Nat} {x : Nat} (h : x ∈ L) : L.getD (L.idxOf x) 0 = x := by
  induction L with
  | nil => simp at h
  | cons a l ih =>
    by_cases e : a = x
    · subst e
      simp
    · have hx : x ∈ l := by
        rcases List.mem_cons.mp h with h | h
        · exact absurd h.symm e
        · exact h
      rw [List.idxOf_cons]
      simp only [beq_iff_eq, e, cond_false, Bool.cond_eq_ite, if_false]
      simpa using ih hx
theorem idx_lt {L : List Nat} {x : Nat} (h : x ∈ L) : L.idxOf x < L.length := List.idxOf_lt_length_iff.mpr h
theorem idx_of {L : List Nat} {x i : Nat} (h : i < L.length) (hx : L.getD i 0 = x) (hn : ∀ j, j < i → L.getD j 0 ≠ x) : L.idxOf x = i := by
  have hm : x ∈ L := hx ▸ getD_mem h
  have h1 := getD_idx hm
  rcases Nat.lt_trichotomy (L.idxOf x) i with z | z | z
  · exact absurd h1 (hn _ z)
  · exact z
  · exfalso
    have key : ∀ (l : List Nat) (i : Nat), i < l.idxOf x → l.getD i 0 ≠ x ∨ l.length ≤ i := by
      intro l
      induction l with
      | nil => intro i _; exact Or.inr (Nat.zero_le _)
      | cons a l ih =>
        intro i hi
        by_cases e : a = x
        · subst e
          simp at hi
        · rw [List.idxOf_cons] at hi
          simp only [beq_iff_eq, e, cond_false, Bool.cond_eq_ite, if_false] at hi
          cases i with
          | zero => exact Or.inl (by simpa using e)
          | succ i => exact (ih i (by omega)).imp (fun z => by simpa using z) (fun z => by simp; omega)
    rcases key L i z with q | q
    · exact q hx
    · omega
theorem not_mem_of {L : List Nat} {x : Nat} (h : ∀ j, j < L.length → L.getD j 0 ≠ x) : x ∉ L := fun hm => by
  have h1 := idx_lt hm
  exact h _ h1 (getD_idx hm)
theorem EI.old (h : EI lim f u R L T) (hd : ¬ (3 * L.length ≤ T.length ∨ u (L.getD (L.length - 1) 0) = true)) (hm : nxt f L T ∈ L) : EI lim f u R L (T ++ [L.idxOf (nxt f L T)]) := by
  have h3 : ¬ 3 * L.length ≤ T.length := fun z => hd (Or.inl z)
  have h2 := h.2.1
  refine ⟨?_, h.2.1, h.2.2.1, by rw [List.length_append]; simp; omega, fun p hp => ?_⟩
  · rw [← h.1, h.fuel, EXs, if_neg hd, if_pos hm, List.length_append, show 3 * lim + 1 - (T.length + [L.idxOf (nxt f L T)].length) = 3 * lim - T.length by simp only [List.length_cons, List.length_nil]; omega]
  · rw [List.length_append] at hp
    simp at hp
    by_cases e : p = T.length
    · subst e
      rw [getD_new]
      exact ⟨idx_lt hm, getD_idx hm⟩
    · have hp2 : p < T.length := by omega
      rw [getD_app hp2]
      exact h.2.2.2.2 p hp2
theorem EI.full (h : EI lim f u R L T) (hd : ¬ (3 * L.length ≤ T.length ∨ u (L.getD (L.length - 1) 0) = true)) (hm : nxt f L T ∉ L) (hl : lim ≤ L.length) : R = none := by
  rw [← h.1, h.fuel, EXs, if_neg hd, if_neg hm, if_pos hl]
theorem EI.new (h : EI lim f u R L T) (hd : ¬ (3 * L.length ≤ T.length ∨ u (L.getD (L.length - 1) 0) = true)) (hm : nxt f L T ∉ L) (hl : ¬ lim ≤ L.length) : EI lim f u R (L ++ [nxt f L T]) (T ++ [L.length]) := by
  have h3 : ¬ 3 * L.length ≤ T.length := fun z => hd (Or.inl z)
  have h2 := h.2.1
  refine ⟨?_, by rw [List.length_append]; simp; omega, by rw [List.length_append]; simp, by rw [List.length_append, List.length_append]; simp; omega, fun p hp => ?_⟩
  · rw [← h.1, h.fuel, EXs, if_neg hd, if_neg hm, if_neg hl, List.length_append, show 3 * lim + 1 - (T.length + [L.length].length) = 3 * lim - T.length by simp only [List.length_cons, List.length_nil]; omega]
  · rw [List.length_append] at hp
    simp at hp
    rw [List.length_append]
    by_cases e : p = T.length
    · subst e
      rw [getD_new, getD_new, getD_app (by omega)]
      exact ⟨by simp, rfl⟩
    · have hp2 : p < T.length := by omega
      have := h.2.2.2.2 p hp2
      have t1 := this.1
      rw [getD_app hp2, getD_app this.1, getD_app (by omega)]
      exact ⟨by simp only [List.length_cons, List.length_nil]; omega, this.2⟩
/-- what holds of its end -/
def EE (lim : Nat) (f : Nat → Nat → Nat) (L T : List Nat) : Prop := L.length ≤ lim ∧ 1 ≤ L.length ∧ (∀ p, p < T.length → T.getD p 0 < L.length ∧ L.getD (T.getD p 0) 0 = f (L.getD (p / 3) 0) (p % 3))
theorem EI.inv : ∀ (k : Nat) {L T : List Nat}, 3 * lim + 1 - T.length = k → EI lim f u R L T → ∀ L' T', R = some (L', T') → EE lim f L' T' ∧ L'.getD 0 0 = L.getD 0 0 ∧ (3 * L'.length = T'.length ∨ u (L'.getD (L'.length - 1) 0) = true) := by
  intro k
  induction k with
  | zero =>
    intro L T hk h
    have := h.fuel
    omega
  | succ k ih =>
    intro L T hk h L' T' hR
    by_cases hd : 3 * L.length ≤ T.length ∨ u (L.getD (L.length - 1) 0) = true
    · have := h.done hd
      rw [hR] at this
      cases this
      have h4 := h.2.2.2.1
      exact ⟨⟨h.2.1, h.2.2.1, h.2.2.2.2⟩, rfl, hd.imp (fun z => by omega) (fun z => z)⟩
    · by_cases hm : nxt f L T ∈ L
      · exact ih (by rw [List.length_append]; simp; omega) (h.old hd hm) L' T' hR
      · by_cases hl : lim ≤ L.length
        · have := h.full hd hm hl
          rw [hR] at this
          cases this
        · have g := ih (by rw [List.length_append]; simp; omega) (h.new hd hm hl) L' T' hR
          rw [getD_app (by have := h.2.2.1; omega)] at g
          exact g
theorem EX.inv {x0 : Nat} (hl : 1 ≤ lim) {L' T' : List Nat} (h : EX lim f u x0 = some (L', T')) : EE lim f L' T' ∧ L'.getD 0 0 = x0 ∧ (3 * L'.length = T'.length ∨ u (L'.getD (L'.length - 1) 0) = true) := EI.inv _ rfl (EI.start x0 hl) L' T' h
end SEX
