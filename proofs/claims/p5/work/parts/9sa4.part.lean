section SPT
/-- the first j with p, from j on -/
def fsf (p : Nat → Bool) : Nat → Nat → Nat
  | 0, j => j
  | n + 1, j => if p j = true then j else fsf p n (j + 1)
/-- the first j up to k with p; k, if there is none below -/
def fi (p : Nat → Bool) (k : Nat) : Nat := fsf p k 0
theorem fsf_of {p : Nat → Bool} : ∀ (n j i : Nat), i ≤ n → (∀ m, m < i → p (j + m) = false) → (i < n → p (j + i) = true) → fsf p n j = j + i := by
  intro n
  induction n with
  | zero => intro j i hi _ _; obtain rfl : i = 0 := by omega
            rfl
  | succ n ih =>
    intro j i hi hn hp
    cases i with
    | zero => rw [fsf, if_pos (by have := hp (by omega); rwa [Nat.add_zero] at this)]; rfl
    | succ i =>
      have h0 := hn 0 (by omega)
      rw [Nat.add_zero] at h0
      rw [fsf, h0, if_neg (by decide), ih (j + 1) i (by omega) (fun m hm => by rw [← hn (m + 1) (by omega)]; congr 1; omega) (fun hl => by rw [← hp (by omega)]; congr 1; omega)]
      omega
theorem fsf_ex {p : Nat → Bool} : ∀ (n j : Nat), ∃ i, i ≤ n ∧ (∀ m, m < i → p (j + m) = false) ∧ (i < n → p (j + i) = true) := by
  intro n
  induction n with
  | zero => intro j; exact ⟨0, Nat.le_refl _, fun m hm => absurd hm (Nat.not_lt_zero _), fun h => absurd h (Nat.lt_irrefl _)⟩
  | succ n ih =>
    intro j
    cases hp : p j with
    | true => exact ⟨0, Nat.zero_le _, fun m hm => absurd hm (Nat.not_lt_zero _), fun _ => hp⟩
    | false =>
      obtain ⟨i, h1, h2, h3⟩ := ih (j + 1)
      refine ⟨i + 1, by omega, fun m hm => ?_, fun hl => ?_⟩
      · cases m with
        | zero => exact hp
        | succ m => rw [← h2 m (by omega)]; congr 1; omega
      · rw [← h3 (by omega)]; congr 1; omega
theorem fi_of {p : Nat → Bool} {k i : Nat} (hi : i ≤ k) (hn : ∀ m, m < i → p m = false) (hp : i < k → p i = true) : fi p k = i := by
  have h := fsf_of (p := p) k 0 i hi (fun m hm => by rw [Nat.zero_add]; exact hn m hm) (fun h => by rw [Nat.zero_add]; exact hp h)
  rw [Nat.zero_add] at h
  exact h
theorem fi_spec (p : Nat → Bool) (k : Nat) : fi p k ≤ k ∧ (∀ m, m < fi p k → p m = false) ∧ (fi p k < k → p (fi p k) = true) := by
  obtain ⟨i, h1, h2, h3⟩ := fsf_ex (p := p) k 0
  simp only [Nat.zero_add] at h2 h3
  rw [fi_of h1 h2 h3]
  exact ⟨h1, h2, h3⟩
theorem fi_at {p : Nat → Bool} {k : Nat} (h : p k = true) : p (fi p k) = true := by
  obtain ⟨h1, h2, h3⟩ := fi_spec p k
  rcases Nat.lt_or_ge (fi p k) k with z | z
  · exact h3 z
  · rw [show fi p k = k by omega]; exact h
theorem fi_le (p : Nat → Bool) (k : Nat) : fi p k ≤ k := (fi_spec p k).1
theorem fi_congr {p q : Nat → Bool} {k : Nat} (h : ∀ j, j < k → p j = q j) : fi p k = fi q k := by
  obtain ⟨h1, h2, h3⟩ := fi_spec q k
  exact fi_of h1 (fun m hm => by rw [h m (by omega)]; exact h2 m hm) (fun hl => by rw [h _ hl]; exact h3 hl)
theorem fi_two {p : Nat → Bool} {j k : Nat} (hj : p j = true) (hk : p k = true) : fi p j = fi p k := by
  obtain ⟨h1, h2, h3⟩ := fi_spec p j
  have hm := fi_at hj
  have hle : fi p j ≤ k := Nat.le_of_not_lt (fun z => by have := h2 k z; rw [hk] at this; cases this)
  exact (fi_of hle h2 (fun _ => hm)).symm
/-- parts by the first of each -/
theorem fi_eqv {e : Nat → Nat → Bool} (hr : ∀ a, e a a = true) (hs : ∀ a b, e a b = true → e b a = true) (ht : ∀ a b c, e a b = true → e b c = true → e a c = true) (j k : Nat) : fi (fun i => e i j) j = fi (fun i => e i k) k ↔ e j k = true := by
  have hj := fi_at (p := fun i => e i j) (hr j)
  have hk := fi_at (p := fun i => e i k) (hr k)
  constructor
  · intro h
    rw [h] at hj
    exact ht _ _ _ (hs _ _ hj) hk
  · intro h
    have h1 : (fun i => e i j) = fun i => e i k := by
      funext i
      rw [Bool.eq_iff_iff]
      exact ⟨fun z => ht _ _ _ z h, fun z => ht _ _ _ z (hs _ _ h)⟩
    rw [h1]
    exact fi_two h (hr k)
/-- parting: in round t -/
def PRT (D : DF) : Nat → Nat → Nat
  | 0, k => fi (fun j => D.2.2 j == D.2.2 k) k
  | t + 1, k => fi (fun j => PRT D t j == PRT D t k && (PRT D t (D.2.1 (3 * j)) == PRT D t (D.2.1 (3 * k)) && (PRT D t (D.2.1 (3 * j + 1)) == PRT D t (D.2.1 (3 * k + 1)) && PRT D t (D.2.1 (3 * j + 2)) == PRT D t (D.2.1 (3 * k + 2))))) k
/-- its end -/
def PL (D : DF) (k : Nat) : Nat := PRT D D.1 k
variable {D : DF}
theorem PRT_0 {j k : Nat} : PRT D 0 j = PRT D 0 k ↔ D.2.2 j = D.2.2 k := by
  have h := fi_eqv (e := fun a b => D.2.2 a == D.2.2 b) (fun a => by simp) (fun a b h => by simp only [beq_iff_eq] at h ⊢; exact h.symm) (fun a b c h1 h2 => by simp only [beq_iff_eq] at h1 h2 ⊢; exact h1.trans h2) j k
  rw [show (D.2.2 j = D.2.2 k) = ((D.2.2 j == D.2.2 k) = true) by simp]
  exact h
theorem PRT_s {t j k : Nat} : PRT D (t + 1) j = PRT D (t + 1) k ↔ PRT D t j = PRT D t k ∧ ∀ s, s < 3 → PRT D t (D.2.1 (3 * j + s)) = PRT D t (D.2.1 (3 * k + s)) := by
  have h := fi_eqv (e := fun a b => PRT D t a == PRT D t b && (PRT D t (D.2.1 (3 * a)) == PRT D t (D.2.1 (3 * b)) && (PRT D t (D.2.1 (3 * a + 1)) == PRT D t (D.2.1 (3 * b + 1)) && PRT D t (D.2.1 (3 * a + 2)) == PRT D t (D.2.1 (3 * b + 2))))) (fun a => by simp) (fun a b h => by simp only [Bool.and_eq_true, beq_iff_eq] at h ⊢; exact ⟨h.1.symm, h.2.1.symm, h.2.2.1.symm, h.2.2.2.symm⟩) (fun a b c h1 h2 => by simp only [Bool.and_eq_true, beq_iff_eq] at h1 h2 ⊢; exact ⟨h1.1.trans h2.1, h1.2.1.trans h2.2.1, h1.2.2.1.trans h2.2.2.1, h1.2.2.2.trans h2.2.2.2⟩) j k
  refine Iff.trans h ?_
  simp only [Bool.and_eq_true, beq_iff_eq]
  constructor
  · rintro ⟨h0, h1, h2, h3⟩
    refine ⟨h0, fun s hs => ?_⟩
    rcases (show s = 0 ∨ s = 1 ∨ s = 2 by omega) with rfl | rfl | rfl
    · exact h1
    · exact h2
    · exact h3
  · rintro ⟨h0, h1⟩
    exact ⟨h0, h1 0 (by omega), h1 1 (by omega), h1 2 (by omega)⟩
theorem PRT_le (t k : Nat) : PRT D t k ≤ k := by
  cases t <;> exact fi_le _ _
theorem PRT_id (t k : Nat) : PRT D t (PRT D t k) = PRT D t k := by
  cases t with
  | zero =>
    rw [PRT_0]
    have h := fi_at (p := fun j => D.2.2 j == D.2.2 k) (k := k) (by simp)
    exact beq_iff_eq.mp h
  | succ t =>
    rw [PRT_s]
    have h := fi_at (p := fun j => PRT D t j == PRT D t k && (PRT D t (D.2.1 (3 * j)) == PRT D t (D.2.1 (3 * k)) && (PRT D t (D.2.1 (3 * j + 1)) == PRT D t (D.2.1 (3 * k + 1)) && PRT D t (D.2.1 (3 * j + 2)) == PRT D t (D.2.1 (3 * k + 2))))) (k := k) (by simp)
    simp only [Bool.and_eq_true, beq_iff_eq] at h
    refine ⟨h.1, fun s hs => ?_⟩
    rcases (show s = 0 ∨ s = 1 ∨ s = 2 by omega) with rfl | rfl | rfl
    · exact h.2.1
    · exact h.2.2.1
    · exact h.2.2.2
theorem PRT_congr {t m k : Nat} (hT : ∀ j, j < 3 * D.1 → D.2.1 j < D.1) (hk : k < D.1) (h : ∀ j, j < D.1 → PRT D t j = PRT D m j) : PRT D (t + 1) k = PRT D (m + 1) k := by
  refine fi_congr (fun j hj => ?_)
  rw [h j (by omega), h k hk, h _ (hT (3 * j) (by omega)), h _ (hT (3 * k) (by omega)), h _ (hT (3 * j + 1) (by omega)), h _ (hT (3 * k + 1) (by omega)), h _ (hT (3 * j + 2) (by omega)), h _ (hT (3 * k + 2) (by omega))]
/-- no further parting from t on -/
def STB (D : DF) (t : Nat) : Prop := ∀ k, k < D.1 → PRT D (t + 1) k = PRT D t k
theorem STB.up (hT : ∀ j, j < 3 * D.1 → D.2.1 j < D.1) {t : Nat} (h : STB D t) : ∀ m, t ≤ m → ∀ k, k < D.1 → PRT D m k = PRT D t k := by
  intro m
  induction m with
  | zero => intro hm k _; obtain rfl : t = 0 := by omega
            rfl
  | succ m ih =>
    intro hm k hk
    by_cases e : t = m + 1
    · rw [e]
    · rw [PRT_congr (m := t) hT hk (fun j hj => ih (by omega) j hj)]
      exact h k hk
/-- how many are the first of theirs -/
def cnf (P : Nat → Nat) : Nat → Nat
  | 0 => 0
  | n + 1 => cnf P n + (if P n = n then 1 else 0)
theorem cnf_le (P : Nat → Nat) : ∀ n, cnf P n ≤ n := by
  intro n
  induction n with
  | zero => exact Nat.le_refl _
  | succ n ih => rw [cnf]; split <;> omega
theorem cnf_mono {P P' : Nat → Nat} : ∀ n, (∀ k, k < n → P k = k → P' k = k) → cnf P n ≤ cnf P' n := by
  intro n
  induction n with
  | zero => intro _; exact Nat.le_refl _
  | succ n ih =>
    intro h
    have h1 := ih (fun k hk => h k (by omega))
    have h2 := h n (by omega)
    rw [cnf, cnf]
    by_cases e : P n = n
    · rw [if_pos e, if_pos (h2 e)]; omega
    · rw [if_neg e]; split <;> omega
theorem cnf_lt {P P' : Nat → Nat} {j : Nat} : ∀ n, (∀ k, k < n → P k = k → P' k = k) → j < n → P' j = j → P j ≠ j → cnf P n < cnf P' n := by
  intro n
  induction n with
  | zero => intro _ h; exact absurd h (Nat.not_lt_zero _)
  | succ n ih =>
    intro h hj h1 h2
    rw [cnf, cnf]
    by_cases e : j = n
    · subst e
      have := cnf_mono (P := P) (P' := P') j (fun k hk => h k (by omega))
      rw [if_pos h1, if_neg h2]; omega
    · have h3 := ih (fun k hk => h k (by omega)) (by omega) h1 h2
      have h4 := h n (by omega)
      by_cases e2 : P n = n
      · rw [if_pos e2, if_pos (h4 e2)]; omega
      · rw [if_neg e2]; split <;> omega
theorem PRT_fin (hT : ∀ j, j < 3 * D.1 → D.2.1 j < D.1) (h1 : 1 ≤ D.1) : ∃ t, t < D.1 ∧ STB D t := by
  refine Classical.byContradiction (fun hn => ?_)
  have hn' : ∀ t, t < D.1 → ¬ STB D t := fun t ht hs => hn ⟨t, ht, hs⟩
  have key : ∀ t, t ≤ D.1 → t + 1 ≤ cnf (PRT D t) D.1 := by
    intro t
    induction t with
    | zero =>
      intro _
      obtain ⟨z, hz⟩ : ∃ z, D.1 = z + 1 := ⟨D.1 - 1, by omega⟩
      have h := cnf_lt (P := fun k => k + 1) (P' := PRT D 0) (j := 0) D.1 (fun k _ hk => absurd hk (by omega)) (by omega) (Nat.le_zero.mp (PRT_le 0 0)) (by omega)
      omega
    | succ t ih =>
      intro ht
      have h2 := ih (by omega)
      have h3 := hn' t (by omega)
      have h4 : ∃ k, k < D.1 ∧ PRT D (t + 1) k ≠ PRT D t k := Classical.byContradiction (fun q => h3 (fun k hk => Classical.byContradiction (fun w => q ⟨k, hk, w⟩)))
      obtain ⟨k, hk, hne⟩ := h4
      have hle := PRT_le (D := D) (t + 1) k
      have e1 := (PRT_s.mp (PRT_id (D := D) (t + 1) k)).1
      have hmono : ∀ i, i < D.1 → PRT D t i = i → PRT D (t + 1) i = i := fun i _ hi => by
        have g1 := (PRT_s.mp (PRT_id (D := D) (t + 1) i)).1
        have g2 := PRT_le (D := D) (t + 1) i
        have g3 := PRT_le (D := D) t (PRT D (t + 1) i)
        omega
      have h5 := cnf_lt (P := PRT D t) (P' := PRT D (t + 1)) (j := PRT D (t + 1) k) D.1 hmono (by omega) (PRT_id (t + 1) k) (fun q => hne (by rw [← e1, q]))
      omega
  have g := key D.1 (Nat.le_refl _)
  have := cnf_le (PRT D D.1) D.1
  omega
theorem PL_of (hT : ∀ j, j < 3 * D.1 → D.2.1 j < D.1) (h1 : 1 ≤ D.1) {r : Nat} (h : D.1 ≤ r ∨ (1 ≤ r ∧ STB D (r - 1))) : ∀ k, k < D.1 → PRT D r k = PL D k := by
  obtain ⟨t, ht, hs⟩ := PRT_fin hT h1
  intro k hk
  rw [PL]
  rcases h with h | ⟨h, hr⟩
  · rw [hs.up hT r (by omega) k hk, hs.up hT D.1 (by omega) k hk]
  · rcases Nat.lt_or_ge (r - 1) t with z | z
    · rw [hr.up hT r (by omega) k hk, hr.up hT D.1 (by omega) k hk]
    · rw [hs.up hT r (by omega) k hk, hs.up hT D.1 (by omega) k hk]
theorem PL_stb (hT : ∀ j, j < 3 * D.1 → D.2.1 j < D.1) (h1 : 1 ≤ D.1) {j k : Nat} (hj : j < D.1) (hk : k < D.1) : PL D j = PL D k ↔ D.2.2 j = D.2.2 k ∧ PL D j = PL D k ∧ ∀ s, s < 3 → PL D (D.2.1 (3 * j + s)) = PL D (D.2.1 (3 * k + s)) := by
  have hg : ∀ t, PRT D t j = PRT D t k → D.2.2 j = D.2.2 k := by
    intro t
    induction t with
    | zero => exact fun h => PRT_0.mp h
    | succ t ih => exact fun h => ih (PRT_s.mp h).1
  refine ⟨fun h => ⟨hg _ h, h, fun s hs => ?_⟩, fun h => h.2.1⟩
  have e1 := PL_of hT h1 (r := D.1 + 1) (Or.inl (by omega))
  rw [← e1 j hj, ← e1 k hk] at h
  exact (PRT_s.mp h).2 s hs
theorem PL_lt {k : Nat} (hk : k < D.1) : PL D k < D.1 := Nat.lt_of_le_of_lt (PRT_le _ _) hk
theorem PL_id (k : Nat) : PL D (PL D k) = PL D k := PRT_id _ _
/-- the least one of a one-way one -/
def LSD (D : DF) : Option DF := (EX 32 (fun l s => PL D (D.2.1 (3 * l + s))) (fun _ => false) (PL D 0)).map (fun p => DFo p.1 p.2 D.2.2)
end SPT
