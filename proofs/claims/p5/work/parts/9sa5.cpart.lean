section SCP
variable {μ μ0 : TMem} {k : Nat} {D : DF}
def bi (b : Bool) : Int32 := if b = true then 1 else 0
theorem bi_inj {a b : Bool} : bi a = bi b ↔ a = b := by cases a <;> cases b <;> decide
theorem bi_0 {a : Bool} : bi a = 0 ↔ a = false := by cases a <;> decide
theorem bi_B (a : Bool) : isB (bi a) := by cases a; exact Or.inl rfl; exact Or.inr rfl
theorem HP.same {μ' : TMem} (h : HP μ k D) (e1 : μ' k = μ k) (e2 : μ' (k + 1) = μ (k + 1)) : HP μ' k D := by
  obtain ⟨h1, h2, h3, h4, h5, h6⟩ := h
  exact ⟨h1, h2, h3, by rw [e1]; exact h4, by rw [e2]; exact h5, by rw [e1]; exact h6⟩
theorem e_goal {a : Nat} {Q : Int32 → Prop} (h : HP μ k D) (ha : a < D.1) (hQ : Q (bi (D.2.2 a))) : wp_X5_isGoal k μ (nI a) Q := by
  have h32 := h.2.1
  have e := h.2.2.2.2.2 a (by omega)
  rw [decide_eq_true ha, Bool.true_and] at e
  refine ⟨fun z => ?_, fun z => ?_⟩
  · rw [s_isIn (by omega), e] at z
    rw [z] at hQ
    exact ⟨Or.inl rfl, hQ⟩
  · rw [s_isIn (by omega), e] at z
    have z2 : D.2.2 a = true := by simpa using z
    rw [z2] at hQ
    exact ⟨Or.inr rfl, hQ⟩
theorem e_fog {a : Nat} {Q : Int32 → Prop} (h : HP μ k D) (ha : a < D.1) (hQ : Q (nI (PRT D 0 a))) : wp_X1_firstOfGoalness k μ (nI a) Q := by
  have h32 := h.2.1
  have go : ∀ (nf j : Nat), a - j < nf → j ≤ a → (∀ m, m < j → (D.2.2 m == D.2.2 a) = false) → wpl_X1_firstOfGoalness_2 k μ (nI a) Q nf (nI j) := by
    intro nf
    induction nf with
    | zero => intro j hk; exact absurd hk (Nat.not_lt_zero _)
    | succ nf ih =>
      intro j hk hj hno
      refine ⟨fun c => ?_, fun c => ?_⟩
      · rw [nI_leI (by omega) (by omega)] at c
        have e : PRT D 0 a = a := fi_of (Nat.le_refl a) (fun m hm => hno m (by omega)) (fun z => absurd z (Nat.lt_irrefl _))
        rw [e] at hQ
        exact hQ
      rw [nI_leI (by omega) (by omega)] at c
      refine e_goal h (by omega) (e_goal h ha ⟨fun z => ?_, fun z => ?_⟩)
      · rw [bi_inj] at z
        rw [nI_1]
        refine ih (j + 1) (by omega) (by omega) (fun m hm => ?_)
        by_cases e : m = j
        · rw [e]
          simpa using z
        · exact hno m (by omega)
      · rw [bi_inj] at z
        have e : PRT D 0 a = j := fi_of (by omega) hno (fun _ => by simpa using z)
        rw [e] at hQ
        exact hQ
  have g := go (a + 1) 0 (by omega) (Nat.zero_le _) (fun m hm => absurd hm (Nat.not_lt_zero _))
  rw [nI_0] at g
  exact ⟨_, g⟩
/-- two rows alone are changed -/
def F2 (p q : Nat) (μ μ9 : TMem) : Prop := ∀ k, k ≠ p → k ≠ q → μ9 k = μ k
theorem HP.f2 {μ' : TMem} {p q : Nat} (h : HP μ k D) (f : F2 p q μ μ') (h1 : k ≠ p ∧ k ≠ q ∧ k + 1 ≠ p ∧ k + 1 ≠ q) : HP μ' k D := h.same (f k h1.1 h1.2.1) (f _ h1.2.2.1 h1.2.2.2)
/-- the code of a state by its part and those of the next ones -/
def cds (P : Nat → Nat) (D : DF) (a : Nat) : Nat → Nat
  | 0 => P a
  | s + 1 => cds P D a s * 32 + P (D.2.1 (3 * a + s))
theorem cds_lt {P : Nat → Nat} {a : Nat} (hT : ∀ j, j < 3 * D.1 → D.2.1 j < D.1) (hP : ∀ i, i < D.1 → P i < 32) (ha : a < D.1) : ∀ s, s ≤ 3 → cds P D a s < 32 ^ (s + 1) := by
  intro s
  induction s with
  | zero => intro _; exact hP a ha
  | succ s ih =>
    intro hs
    have h1 := ih (by omega)
    have h2 := hP _ (hT (3 * a + s) (by omega))
    rw [cds, Nat.pow_succ]
    omega
theorem e_codeOf {P : Nat → Nat} {a : Nat} {Q : Int32 → Prop} (hk : kd k = 5) (h : HP μ k D) (hp : ∀ i, i < D.1 → μ 24 i = nI (P i)) (hP : ∀ i, i < D.1 → P i < 32) (ha : a < D.1) (hQ : Q (nI (cds P D a 3))) : wp_X1_codeOf k μ (nI a) Q := by
  have q5 := kd5 hk
  obtain ⟨h1, h2, h3, h4, h5, h6⟩ := h
  have lt := fun s hs => cds_lt (D := D) (P := P) (a := a) h3 hP ha s hs
  have l3 : cds P D a 3 < 2 ^ 20 := by have := lt 3 (Nat.le_refl _); omega
  have ls : ∀ s, s ≤ 3 → cds P D a s < 2 ^ 20 := fun s hs => Nat.lt_of_lt_of_le (lt s hs) (by rw [show (2 : Nat) ^ 20 = 32 ^ 4 from by decide]; exact Nat.pow_le_pow_right (by decide) (by omega))
  have go : ∀ (nf s : Nat), 3 - s < nf → s ≤ 3 → wpl_X1_codeOf_12 k μ (nI a) Q nf (nI s) (nI (cds P D a s)) := by
    intro nf
    induction nf with
    | zero => intro s hk; exact absurd hk (Nat.not_lt_zero _)
    | succ nf ih =>
      intro s hk hs
      have l1 := ls s hs
      refine ⟨fun c => ?_, fun c => ?_⟩
      · rw [show (3 : Int32) = nI 3 from rfl, nI_leI (by omega) (by omega)] at c
        rw [show s = 3 by omega]
        exact hQ
      rw [show (3 : Int32) = nI 3 from rfl, nI_leI (by omega) (by omega)] at c
      refine e_atN (by rw [q5.2]; omega) ?_
      have b1 := h3 (3 * a + s) (by omega)
      rw [h5 _ (by omega)]
      refine e_row (k := 23) (show _ < tl 24 by rw [show tl 24 = 32 from rfl]; omega) ?_
      show wpl_X1_codeOf_12 k μ (nI a) Q nf (nI s + 1) (nI (cds P D a s) * (32 : Int32) + μ 24 (D.2.1 (3 * a + s)))
      rw [hp _ b1, nI_1, show (32 : Int32) = nI 32 from rfl, s_mul, nI_add]
      exact ih (s + 1) (by omega) (by omega)
  refine e_row (k := 23) (show a < tl 24 by rw [show tl 24 = 32 from rfl]; omega) ?_
  have g := go 4 0 (by omega) (by omega)
  rw [nI_0] at g
  refine ⟨4, ?_⟩
  show wpl_X1_codeOf_12 k μ (nI a) Q 4 0 (μ 24 a)
  rw [hp a ha]
  exact g
theorem cds_inj {P : Nat → Nat} {a b : Nat} (hT : ∀ j, j < 3 * D.1 → D.2.1 j < D.1) (hP : ∀ i, i < D.1 → P i < 32) (ha : a < D.1) (hb : b < D.1) : cds P D a 3 = cds P D b 3 ↔ P a = P b ∧ P (D.2.1 (3 * a)) = P (D.2.1 (3 * b)) ∧ P (D.2.1 (3 * a + 1)) = P (D.2.1 (3 * b + 1)) ∧ P (D.2.1 (3 * a + 2)) = P (D.2.1 (3 * b + 2)) := by
  have a0 := hP _ (hT (3 * a) (by omega))
  have a1 := hP _ (hT (3 * a + 1) (by omega))
  have a2 := hP _ (hT (3 * a + 2) (by omega))
  have b0 := hP _ (hT (3 * b) (by omega))
  have b1 := hP _ (hT (3 * b + 1) (by omega))
  have b2 := hP _ (hT (3 * b + 2) (by omega))
  simp only [cds, Nat.add_zero]
  omega
theorem range_getD {f : Nat → Nat} {n i : Nat} (h : i < n) : ((List.range n).map f).getD i 0 = f i := by
  rw [List.getD_eq_getElem?_getD]
  simp [h]
/-- the first of the same code -/
theorem cds_first {t a : Nat} (hT : ∀ j, j < 3 * D.1 → D.2.1 j < D.1) (h32 : D.1 ≤ 32) (ha : a < D.1) : ((List.range D.1).map (fun i => cds (PRT D t) D i 3)).idxOf (cds (PRT D t) D a 3) = PRT D (t + 1) a := by
  have hP : ∀ i, i < D.1 → PRT D t i < 32 := fun i hi => Nat.lt_of_le_of_lt (PRT_le t i) (by omega)
  have hle := PRT_le (D := D) (t + 1) a
  have key : ∀ j, j < D.1 → ((PRT D t j == PRT D t a && (PRT D t (D.2.1 (3 * j)) == PRT D t (D.2.1 (3 * a)) && (PRT D t (D.2.1 (3 * j + 1)) == PRT D t (D.2.1 (3 * a + 1)) && PRT D t (D.2.1 (3 * j + 2)) == PRT D t (D.2.1 (3 * a + 2))))) = true ↔ cds (PRT D t) D j 3 = cds (PRT D t) D a 3) := fun j hj => by
    rw [cds_inj hT hP hj ha]
    simp only [Bool.and_eq_true, beq_iff_eq]
  have sp := fi_spec (fun j => PRT D t j == PRT D t a && (PRT D t (D.2.1 (3 * j)) == PRT D t (D.2.1 (3 * a)) && (PRT D t (D.2.1 (3 * j + 1)) == PRT D t (D.2.1 (3 * a + 1)) && PRT D t (D.2.1 (3 * j + 2)) == PRT D t (D.2.1 (3 * a + 2))))) a
  have at' := fi_at (p := fun j => PRT D t j == PRT D t a && (PRT D t (D.2.1 (3 * j)) == PRT D t (D.2.1 (3 * a)) && (PRT D t (D.2.1 (3 * j + 1)) == PRT D t (D.2.1 (3 * a + 1)) && PRT D t (D.2.1 (3 * j + 2)) == PRT D t (D.2.1 (3 * a + 2))))) (k := a) (by simp)
  refine idx_of (by simp; omega) ?_ (fun j hj => ?_)
  · rw [range_getD (by omega)]
    exact (key _ (by omega)).mp at'
  · rw [range_getD (by omega)]
    intro q
    have q2 := (key j (by omega)).mpr q
    have q3 := sp.2.1 j hj
    rw [q2] at q3
    cases q3
theorem e_partOnce {t : Nat} {Q : Int32 → TMem → Prop} (hkk : kd k = 5) (h : HP μ k D) (hp : ∀ i, i < D.1 → μ 24 i = nI (PRT D t i)) (hQ : ∀ (r : Int32) (μ9 : TMem), isB r → (r = 0 → STB D t) → (∀ i, i < D.1 → μ9 24 i = nI (PRT D (t + 1) i)) → F2 24 26 μ μ9 → Q r μ9) : wp_X1_partOnce k μ Q := by
  have q5 := kd5 hkk
  have h32 := h.2.1
  have hT := h.2.2.1
  have hP : ∀ i, i < D.1 → PRT D t i < 32 := fun i hi => Nat.lt_of_le_of_lt (PRT_le t i) (by omega)
  have cl : ∀ i, i < D.1 → cds (PRT D t) D i 3 < 2 ^ 20 := fun i hi => Nat.lt_of_lt_of_le (cds_lt hT hP hi 3 (Nat.le_refl _)) (by decide)
  have L2 : ∀ (nf a : Nat) (v : Int32) (μ1 : TMem), D.1 - a < nf → a ≤ D.1 → isB v → (v = 0 → ∀ i, i < a → PRT D (t + 1) i = PRT D t i) → (∀ i, i < D.1 → μ1 24 i = nI (if i < a then PRT D (t + 1) i else PRT D t i)) → (∀ i, i < D.1 → μ1 26 i = nI (cds (PRT D t) D i 3)) → F2 24 26 μ μ1 → wpl_X1_partOnce_34 k Q nf (nI a) v μ1 := by
    intro nf
    induction nf with
    | zero => intro a v μ1 hk; exact absurd hk (Nat.not_lt_zero _)
    | succ nf ih =>
      intro a v μ1 hk ha hv hv0 hp1 hc1 hf
      have hz : μ1 k 1 = nI D.1 := by rw [hf k (by omega) (by omega)]; exact h.2.2.2.1
      refine ⟨fun c => ?_, fun c => ?_⟩
      · rw [hz, nI_leI (by omega) (by omega)] at c
        have e : a = D.1 := by omega
        subst e
        exact ⟨hv, hQ v μ1 hv (fun q k hk => hv0 q k hk) (fun i hi => by rw [hp1 i hi, if_pos hi]) hf⟩
      rw [hz, nI_leI (by omega) (by omega)] at c
      have ha1 : a < D.1 := by omega
      have hlist : ((List.range D.1).map (fun i => cds (PRT D t) D i 3)).length = D.1 := by simp
      refine e_row (k := 25) (show a < tl 26 by rw [show tl 26 = 32 from rfl]; omega) ?_
      show wp_X6_find 25 μ1 (μ1 26 a) (μ1 k 1) _
      rw [hz, hc1 a ha1]
      have fnd : ∀ Q' : Int32 → Prop, Q' (nI (PRT D (t + 1) a)) → wp_X6_find 25 μ1 (nI (cds (PRT D t) D a 3)) (nI D.1) Q' := fun Q' hq => by
        have g := e_find (k := 25) (μ := μ1) (L := (List.range D.1).map (fun i => cds (PRT D t) D i 3)) (x := nI (cds (PRT D t) D a 3)) (Q := Q') (by rw [hlist]; exact h32) (fun i hi => by
          rw [hlist] at hi
          have := cl i hi
          rw [range_getD hi]
          show nn (μ1 26 i) = _
          rw [hc1 i hi, nn_nI (by omega)]) (fun m => by rw [nn_nI (by have := cl a ha1; omega), cds_first hT h32 ha1]; exact hq) (fun m => absurd (by
            rw [nn_nI (by have := cl a ha1; omega)]
            exact List.mem_map.mpr ⟨a, List.mem_range.mpr ha1, rfl⟩) m)
        rw [hlist] at g
        exact g
      refine fnd _ (e_row (k := 23) (show a < tl 24 by rw [show tl 24 = 32 from rfl]; omega) ?_)
      intro J hJ
      have step : ∀ j : Int32, isB j → (j = 0 → PRT D (t + 1) a = PRT D t a) → J j := fun j hj hj0 => hJ j (e_rowput (k := 23) (show a < tl 24 by rw [show tl 24 = 32 from rfl]; omega) (by
        rw [nI_1]
        refine ih (a + 1) _ _ (by omega) (by omega) (isB_or hv hj) (fun q i hi => ?_) (fun i hi => ?_) (fun i hi => ?_) (fun k' a' b' => ?_)
        · have q1 : v = 0 ∧ j = 0 := by
            rcases hv with rfl | rfl <;> rcases hj with rfl | rfl <;> first | exact ⟨rfl, rfl⟩ | exact absurd q (by decide)
          by_cases e : i = a
          · rw [e]; exact hj0 q1.2
          · exact hv0 q1.1 i (by omega)
        · show (tms μ1 24 a (nI (PRT D (t + 1) a))) 24 i = _
          rw [tms_eq]
          by_cases e : i = a
          · rw [e, upd_at, if_pos (by omega)]
          · rw [upd_ne e, hp1 i hi]
            by_cases e2 : i < a
            · rw [if_pos e2, if_pos (by omega)]
            · rw [if_neg e2, if_neg (by omega)]
        · show (tms μ1 24 a (nI (PRT D (t + 1) a))) 26 i = _
          rw [tms_ne (by decide)]
          exact hc1 i hi
        · show (tms μ1 24 a (nI (PRT D (t + 1) a))) k' = _
          rw [tms_ne a']
          exact hf k' a' b'))
      have e23 : μ1 24 a = nI (PRT D t a) := by rw [hp1 a ha1, if_neg (by omega)]
      have b1 := PRT_le (D := D) (t + 1) a
      have b2 := PRT_le (D := D) t a
      refine ⟨fun q => step 0 (Or.inl rfl) (fun _ => ?_), fun q => step 1 (Or.inr rfl) (fun z => absurd z (by decide))⟩
      have q' : nI (PRT D (t + 1) a) = μ1 24 a := q
      rw [e23, nI_eq (by omega) (by omega)] at q'
      exact q'
  have L1 : ∀ (nf a : Nat) (μ1 : TMem), D.1 - a < nf → a ≤ D.1 → (∀ i, i < D.1 → μ1 24 i = nI (PRT D t i)) → (∀ i, i < a → μ1 26 i = nI (cds (PRT D t) D i 3)) → F2 24 26 μ μ1 → wpl_X1_partOnce_2 k (fun (μ10 : TMem) => ∃ n10x, wpl_X1_partOnce_34 k Q n10x (0 : Int32) (0 : Int32) μ10) nf (nI a) μ1 := by
    intro nf
    induction nf with
    | zero => intro a μ1 hk; exact absurd hk (Nat.not_lt_zero _)
    | succ nf ih =>
      intro a μ1 hk ha hp1 hc1 hf
      have hz : μ1 k 1 = nI D.1 := by rw [hf k (by omega) (by omega)]; exact h.2.2.2.1
      refine ⟨fun c => ?_, fun c => ?_⟩
      · rw [hz, nI_leI (by omega) (by omega)] at c
        have e : a = D.1 := by omega
        have g := L2 (D.1 + 1) 0 0 μ1 (by omega) (Nat.zero_le _) (Or.inl rfl) (fun _ i hi => absurd hi (Nat.not_lt_zero _)) (fun i hi => by rw [hp1 i hi, if_neg (Nat.not_lt_zero _)]) (fun i hi => hc1 i (by omega)) hf
        rw [nI_0] at g
        exact ⟨_, g⟩
      rw [hz, nI_leI (by omega) (by omega)] at c
      refine e_codeOf (P := PRT D t) hkk (h.f2 hf (by omega)) hp1 hP (by omega) (e_rowput (k := 25) (show a < tl 26 by rw [show tl 26 = 32 from rfl]; omega) ?_)
      rw [nI_1]
      refine ih (a + 1) _ (by omega) (by omega) (fun i hi => ?_) (fun i hi => ?_) (fun k' a' b' => ?_)
      · show (tms μ1 26 a _) 24 i = _
        rw [tms_ne (by decide)]
        exact hp1 i hi
      · show (tms μ1 26 a _) 26 i = _
        rw [tms_eq]
        by_cases e : i = a
        · rw [e, upd_at]
        · rw [upd_ne e]
          exact hc1 i (by omega)
      · show (tms μ1 26 a _) k' = _
        rw [tms_ne b']
        exact hf k' a' b'
  have g := L1 (D.1 + 1) 0 μ (by omega) (Nat.zero_le _) hp (fun i hi => absurd hi (Nat.not_lt_zero _)) (fun _ _ _ => rfl)
  rw [nI_0] at g
  exact ⟨_, g⟩
theorem e_findByParting {Q : TMem → Prop} (hk : kd k = 5) (h : HP μ k D) (hQ : ∀ μ9 : TMem, (∀ i, i < D.1 → μ9 24 i = nI (PL D i)) → F2 24 26 μ μ9 → Q μ9) : wp_X1_findByParting k μ Q := by
  have q5 := kd5 hk
  have h32 := h.2.1
  have h1 := h.1
  have hT := h.2.2.1
  have L2 : ∀ (nf r : Nat) (v : Int32) (μ1 : TMem), 32 - r < nf → r ≤ 32 → (v = 0 → 1 ≤ r ∧ STB D (r - 1)) → (∀ i, i < D.1 → μ1 24 i = nI (PRT D r i)) → F2 24 26 μ μ1 → wpl_X1_findByParting_33 k Q nf (nI r) v μ1 := by
    intro nf
    induction nf with
    | zero => intro r v μ1 hk; exact absurd hk (Nat.not_lt_zero _)
    | succ nf ih =>
      intro r v μ1 hk2 hr hv hp hf
      refine ⟨fun c => ?_, fun c => ⟨fun c2 => ?_, fun c2 => ?_⟩⟩
      · rw [show (32 : Int32) = nI 32 from rfl, nI_leI (by omega) (by omega)] at c
        exact hQ μ1 (fun i hi => by rw [hp i hi, PL_of hT h1 (Or.inl (by omega)) i hi]) hf
      · exact hQ μ1 (fun i hi => by rw [hp i hi, PL_of hT h1 (Or.inr (hv c2)) i hi]) hf
      · rw [show (32 : Int32) = nI 32 from rfl, nI_leI (by omega) (by omega)] at c
        refine e_partOnce hk (h.f2 hf (by omega)) hp (fun b μ9 hb h0 hp9 hf9 => ?_)
        rw [nI_1]
        exact ih (r + 1) b μ9 (by omega) (by omega) (fun z => ⟨by omega, h0 z⟩) hp9 (fun k' a' b' => (hf9 k' a' b').trans (hf k' a' b'))
  have L1 : ∀ (nf a : Nat) (μ1 : TMem), D.1 - a < nf → a ≤ D.1 → (∀ i, i < a → μ1 24 i = nI (PRT D 0 i)) → F2 24 26 μ μ1 → wpl_X1_findByParting_2 k (fun (μ10 : TMem) => ∃ n10x, wpl_X1_findByParting_33 k Q n10x (0 : Int32) (1 : Int32) μ10) nf (nI a) μ1 := by
    intro nf
    induction nf with
    | zero => intro a μ1 hk; exact absurd hk (Nat.not_lt_zero _)
    | succ nf ih =>
      intro a μ1 hk2 ha hp hf
      have hz : μ1 k 1 = nI D.1 := by rw [hf k (by omega) (by omega)]; exact h.2.2.2.1
      refine ⟨fun c => ?_, fun c => ?_⟩
      · rw [hz, nI_leI (by omega) (by omega)] at c
        have g := L2 33 0 1 μ1 (by omega) (Nat.zero_le _) (fun z => absurd z (by decide)) (fun i hi => hp i (by omega)) hf
        rw [nI_0] at g
        exact ⟨_, g⟩
      rw [hz, nI_leI (by omega) (by omega)] at c
      refine e_fog (h.f2 hf (by omega)) (by omega) (e_rowput (k := 23) (show a < tl 24 by rw [show tl 24 = 32 from rfl]; omega) ?_)
      rw [nI_1]
      refine ih (a + 1) _ (by omega) (by omega) (fun i hi => ?_) (fun k' a' b' => ?_)
      · show (tms μ1 24 a _) 24 i = _
        rw [tms_eq]
        by_cases e : i = a
        · rw [e, upd_at]
        · rw [upd_ne e]
          exact hp i (by omega)
      · show (tms μ1 24 a _) k' = _
        rw [tms_ne a']
        exact hf k' a' b'
  have g := L1 (D.1 + 1) 0 μ (by omega) (Nat.zero_le _) (fun i hi => absurd hi (Nat.not_lt_zero _)) (fun _ _ _ => rfl)
  rw [nI_0] at g
  exact ⟨_, g⟩
end SCP
