section SIMP
variable {μ ν μ0 : TMem} {k : Nat} {D : DF} {Q : Int32 → TMem → Prop} {Qv : TMem → Prop} {Qi : Int32 → Prop}
/-- whether two are told apart yet -/
def mb (μ : TMem) (i j : Nat) : Bool := (nn (μ 28 i)).testBit j
def LDU (D : DF) (μ : TMem) (i j : Nat) : Prop := ∃ s, s < 3 ∧ mb μ (D.2.1 (3 * i + s)) (D.2.1 (3 * j + s)) = true
/-- told apart rightly, each way -/
def UOK (D : DF) (μ : TMem) : Prop := (∀ i j, i < D.1 → j < D.1 → mb μ i j = mb μ j i) ∧ ∀ i j, i < D.1 → j < D.1 → mb μ i j = true → PL D i ≠ PL D j
theorem e_leadU {a b : Nat} (hk : kd k = 5) (h : HP μ k D) (ha : a < D.1) (hb : b < D.1) (h1 : LDU D μ a b → Qi 1) (h0 : ¬ LDU D μ a b → Qi 0) : wp_X1_isLeadingToUnlike k μ (nI a) (nI b) Qi := by
  have q := (kd5 hk).2
  obtain ⟨b1, b2, b3, b4, b5, b6⟩ := h
  have L : ∀ (nf s : Nat), 3 - s < nf → s ≤ 3 → (∀ i, i < s → mb μ (D.2.1 (3 * a + i)) (D.2.1 (3 * b + i)) = false) → wpl_X1_isLeadingToUnlike_3 k μ (nI a) (nI b) Qi nf (nI s) := by
    intro nf
    induction nf with
    | zero => intro s hk; exact absurd hk (Nat.not_lt_zero _)
    | succ nf ih =>
      intro s hk' hs hN
      refine ⟨fun c => ?_, fun c => ?_⟩
      · rw [show (3 : Int32) = nI 3 from rfl, nI_leI (by omega) (by omega)] at c
        exact h0 (fun ⟨i, hi, g⟩ => by rw [hN i (by omega)] at g; cases g)
      rw [show (3 : Int32) = nI 3 from rfl, nI_leI (by omega) (by omega)] at c
      refine e_atN (by omega) ?_
      have da := b3 (3 * a + s) (by omega)
      have db := b3 (3 * b + s) (by omega)
      rw [b5 _ (by omega)]
      refine e_row (k := 27) (show _ < 32 by omega) (e_atN (by omega) ?_)
      rw [b5 _ (by omega)]
      refine e_isIn (by omega) ⟨fun z => ?_, fun z => ?_⟩
      · rw [bi_0] at z
        rw [nI_1]
        refine ih (s + 1) (by omega) (by omega) (fun i hi => ?_)
        by_cases e : i = s
        · rw [e]; exact z
        · exact hN i (by omega)
      · rw [bi_0] at z
        exact h1 ⟨s, by omega, by simpa [mb] using z⟩
  have g := L 4 0 (by omega) (Nat.zero_le _) (fun i hi => absurd hi (Nat.not_lt_zero _))
  rw [nI_0] at g
  exact ⟨_, g⟩
/-- where a pass stands -/
def TFI (D : DF) (μ0 : TMem) (a b : Nat) (v : Int32) (μ1 : TMem) : Prop := UOK D μ1 ∧ (∀ i j, i < D.1 → mb μ0 i j = true → mb μ1 i j = true) ∧ (∀ i j, i < D.1 → j < i → (i < a ∨ (i = a ∧ j < b)) → LDU D μ0 i j → mb μ1 i j = true) ∧ (v = 0 → ∀ i j, i < D.1 → j < D.1 → mb μ1 i j = mb μ0 i j) ∧ (∀ q, q ≠ 28 → μ1 q = μ0 q) ∧ isB v
theorem TFI.up {a b a' b' : Nat} {v : Int32} {μ1 : TMem} (h : TFI D μ0 a b v μ1) (hx : ∀ i j, i < D.1 → j < i → (i < a' ∨ (i = a' ∧ j < b')) → (i < a ∨ (i = a ∧ j < b)) ∨ (LDU D μ0 i j → mb μ1 i j = true)) : TFI D μ0 a' b' v μ1 := by
  obtain ⟨h1, h2, h3, h4, h5, h6⟩ := h
  exact ⟨h1, h2, fun i j hi hj w l => (hx i j hi hj w).elim (fun z => h3 i j hi hj z l) (fun z => z l), h4, h5, h6⟩
theorem TFI.mono {a b i j : Nat} {v : Int32} {μ1 : TMem} (hT : ∀ j, j < 3 * D.1 → D.2.1 j < D.1) (h : TFI D μ0 a b v μ1) (hi : i < D.1) (hl : LDU D μ0 i j) : LDU D μ1 i j := by
  obtain ⟨s, hs, g⟩ := hl
  exact ⟨s, hs, h.2.1 _ _ (hT _ (by omega)) g⟩
theorem tf_set {a b x y : Nat} {μ1 : TMem} (hb : b < 32) (ha : a < 32) (hab : a ≠ b) : mb (tms (tms μ1 28 a (μ1 28 a ||| ((1 : Int32) <<< (nI b &&& 31)))) 28 b ((tms μ1 28 a (μ1 28 a ||| ((1 : Int32) <<< (nI b &&& 31)))) 28 b ||| ((1 : Int32) <<< (nI a &&& 31)))) x y = (mb μ1 x y || (decide (x = a) && decide (b = y)) || (decide (x = b) && decide (a = y))) := by
  unfold mb
  by_cases e1 : x = b
  · have e2 : x ≠ a := fun z => hab (z ▸ e1)
    rw [decide_eq_true e1, decide_eq_false e2, Bool.false_and, Bool.or_false, Bool.true_and, e1, tms_eq, upd_at, tms_eq, upd_ne (by omega), nn_or, nn_two _ ha, s_or2]
  · rw [decide_eq_false e1, Bool.false_and, Bool.or_false, tms_eq, upd_ne e1]
    by_cases e2 : x = a
    · rw [decide_eq_true e2, Bool.true_and, e2, tms_eq, upd_at, nn_or, nn_two _ hb, s_or2]
    · rw [decide_eq_false e2, Bool.false_and, Bool.or_false, tms_eq, upd_ne e2]
theorem e_tellFurther (hk : kd k = 5) (h : HP μ k D) (hU : UOK D μ) (hQ : ∀ (v : Int32) (μ9 : TMem), TFI D μ D.1 0 v μ9 → Q v μ9) : wp_X1_tellFurther k μ Q := by
  have q := (kd5 hk)
  have hP := h
  obtain ⟨b1, b2, b3, b4, b5, b6⟩ := h
  have same : ∀ {μ1 : TMem}, (∀ q, q ≠ 28 → μ1 q = μ q) → HP μ1 k D := fun hf => hP.same (hf _ (by omega)) (hf _ (by omega))
  have L15 : ∀ (a : Nat) (K : Int32 → TMem → Prop), a < D.1 → (∀ v μ1, TFI D μ (a + 1) 0 v μ1 → K v μ1) → ∀ (nf b : Nat) (v : Int32) (μ1 : TMem), a - b < nf → b ≤ a → TFI D μ a b v μ1 → wpl_X1_tellFurther_15 k (nI a) K nf (nI b) v μ1 := by
    intro a K ha hK nf
    induction nf with
    | zero => intro b v μ1 hk; exact absurd hk (Nat.not_lt_zero _)
    | succ nf ih =>
      intro b v μ1 hk' hb hI
      refine ⟨fun c => ?_, fun c => ?_⟩
      · rw [nI_leI (by omega) (by omega)] at c
        exact hK v μ1 (hI.up (fun i j hi hj w => Or.inl (by omega)))
      rw [nI_leI (by omega) (by omega)] at c
      have hba : b < a := by omega
      refine e_row (k := 27) (show _ < 32 by omega) (e_isIn (by omega) ⟨fun z => ?_, fun z => ?_⟩)
      · rw [bi_0] at z
        rw [nI_1]
        refine ih (b + 1) v μ1 (by omega) (by omega) (hI.up (fun i j hi hj w => ?_))
        by_cases e : i = a ∧ j = b
        · exact Or.inr (fun _ => by rw [e.1, e.2]; simpa [mb] using z)
        · exact Or.inl (by omega)
      · rw [bi_0] at z
        have z' : mb μ1 a b = false := z
        refine e_leadU hk (same hI.2.2.2.2.1) ha (by omega) (fun l => ⟨fun w => absurd w (by decide), fun _ => ?_⟩) (fun l => ⟨fun _ => ?_, fun w => absurd rfl w⟩)
        · refine e_row (k := 27) (show _ < 32 by omega) (e_rowput (k := 27) (show _ < 32 by omega) (e_row (k := 27) (show _ < 32 by omega) (e_rowput (k := 27) (show _ < 32 by omega) ?_)))
          have set := fun x y => tf_set (a := a) (b := b) (x := x) (y := y) (μ1 := μ1) (by omega) (by omega) (by omega)
          have fr : ∀ q, q ≠ 28 → (tms (tms μ1 28 a (μ1 28 a ||| ((1 : Int32) <<< (nI b &&& 31)))) 28 b ((tms μ1 28 a (μ1 28 a ||| ((1 : Int32) <<< (nI b &&& 31)))) 28 b ||| ((1 : Int32) <<< (nI a &&& 31)))) q = μ1 q := fun q hq => by rw [tms_ne hq, tms_ne hq]
          rw [nI_1]
          generalize tms (tms μ1 28 a (μ1 28 a ||| ((1 : Int32) <<< (nI b &&& 31)))) 28 b ((tms μ1 28 a (μ1 28 a ||| ((1 : Int32) <<< (nI b &&& 31)))) 28 b ||| ((1 : Int32) <<< (nI a &&& 31))) = μ2 at set fr ⊢
          obtain ⟨⟨hs, hd⟩, h2, h3, h4, h5, h6⟩ := hI
          have set' : ∀ x y, mb μ2 x y = true ↔ ((mb μ1 x y = true ∨ (x = a ∧ b = y)) ∨ (x = b ∧ a = y)) := fun x y => by rw [set, Bool.or_eq_true, Bool.or_eq_true, Bool.and_eq_true, Bool.and_eq_true, decide_eq_true_iff, decide_eq_true_iff, decide_eq_true_iff, decide_eq_true_iff]
          have ne : PL D a ≠ PL D b := fun e => by
            obtain ⟨s, hs3, g⟩ := l
            exact hd _ _ (b3 _ (by omega)) (b3 _ (by omega)) g (((PL_stb b3 b1 ha (by omega)).mp e).2.2 s hs3)
          refine ih (b + 1) 1 μ2 (by omega) (by omega) ⟨⟨fun i j hi hj => ?_, fun i j hi hj g => ?_⟩, fun i j hi g => (set' i j).mpr (Or.inl (Or.inl (h2 i j hi g))), fun i j hi hj w g => ?_, fun w => absurd w (by decide), fun q hq => (fr q hq).trans (h5 q hq), Or.inr rfl⟩
          · rw [Bool.eq_iff_iff, set', set', hs i j hi hj]
            constructor
            · rintro ((g | ⟨x, y⟩) | ⟨x, y⟩)
              · exact Or.inl (Or.inl g)
              · exact Or.inr ⟨y.symm, x.symm⟩
              · exact Or.inl (Or.inr ⟨y.symm, x.symm⟩)
            · rintro ((g | ⟨x, y⟩) | ⟨x, y⟩)
              · exact Or.inl (Or.inl g)
              · exact Or.inr ⟨y.symm, x.symm⟩
              · exact Or.inl (Or.inr ⟨y.symm, x.symm⟩)
          · rcases (set' i j).mp g with (g | ⟨x, y⟩) | ⟨x, y⟩
            · exact hd i j hi hj g
            · rw [x, ← y]; exact ne
            · rw [x, ← y]; exact ne.symm
          · by_cases e : i = a ∧ j = b
            · exact (set' i j).mpr (Or.inl (Or.inr ⟨e.1, e.2.symm⟩))
            · exact (set' i j).mpr (Or.inl (Or.inl (h3 i j hi hj (by omega) g)))
        · rw [nI_1]
          refine ih (b + 1) v μ1 (by omega) (by omega) (hI.up (fun i j hi hj w => ?_))
          by_cases e : i = a ∧ j = b
          · exact Or.inr (fun l0 => by rw [e.1, e.2] at l0; exact absurd (hI.mono b3 ha l0) l)
          · exact Or.inl (by omega)
  have L4 : ∀ (nf a : Nat) (v : Int32) (μ1 : TMem), D.1 - a < nf → a ≤ D.1 → TFI D μ a 0 v μ1 → wpl_X1_tellFurther_4 k Q nf (nI a) v μ1 := by
    intro nf
    induction nf with
    | zero => intro a v μ1 hk; exact absurd hk (Nat.not_lt_zero _)
    | succ nf ih =>
      intro a v μ1 hk' ha hI
      have hP1 := same hI.2.2.2.2.1
      refine ⟨fun c => ?_, fun c => ?_⟩
      · rw [hP1.2.2.2.1, nI_leI (by omega) (by omega)] at c
        rw [show a = D.1 by omega] at hI
        exact ⟨hI.2.2.2.2.2, hQ v μ1 hI⟩
      rw [hP1.2.2.2.1, nI_leI (by omega) (by omega)] at c
      have g := L15 a (fun u31 μ32 => wpl_X1_tellFurther_4 k Q nf (nI a + (1 : Int32)) u31 μ32) (by omega) (fun v' μ2 h2 => by rw [nI_1]; exact ih (a + 1) v' μ2 (by omega) (by omega) h2) (a + 1) 0 v μ1 (by omega) (Nat.zero_le _) hI
      rw [nI_0] at g
      exact ⟨_, g⟩
  have g := L4 (D.1 + 1) 0 0 μ (by omega) (Nat.zero_le _) ⟨hU, fun i j _ g => g, fun i j _ _ w => absurd w (by omega), fun _ i j _ _ => rfl, fun _ _ => rfl, Or.inl rfl⟩
  rw [nI_0] at g
  exact ⟨_, g⟩
/-- all that a parting tells apart is told apart -/
def DIF (D : DF) (μ : TMem) (t : Nat) : Prop := ∀ i j, i < D.1 → j < D.1 → PRT D t i ≠ PRT D t j → mb μ i j = true
theorem TFI.dif {v : Int32} {μ9 : TMem} (hT : ∀ j, j < 3 * D.1 → D.2.1 j < D.1) (h : TFI D μ D.1 0 v μ9) {t : Nat} (hD : DIF D μ t) : DIF D μ9 (t + 1) := by
  obtain ⟨⟨hs, hd⟩, h2, h3, h4, h5, h6⟩ := h
  have key : ∀ i j, i < D.1 → j < i → PRT D (t + 1) i ≠ PRT D (t + 1) j → mb μ9 i j = true := fun i j hi hj ne => by
    by_cases e : PRT D t i = PRT D t j
    · have hx : ∃ s, s < 3 ∧ PRT D t (D.2.1 (3 * i + s)) ≠ PRT D t (D.2.1 (3 * j + s)) := Classical.byContradiction (fun no => ne (PRT_s.mpr ⟨e, fun s hs => Classical.byContradiction (fun w => no ⟨s, hs, w⟩)⟩))
      obtain ⟨s, hs3, w⟩ := hx
      exact h3 i j hi hj (Or.inl hi) ⟨s, hs3, hD _ _ (hT _ (by omega)) (hT _ (by omega)) w⟩
    · exact h2 i j hi (hD i j hi (by omega) e)
  intro i j hi hj ne
  rcases Nat.lt_trichotomy j i with z | z | z
  · exact key i j hi z ne
  · rw [z] at ne; exact absurd rfl ne
  · rw [hs i j hi hj]; exact key j i hj z ne.symm
theorem DIF.all {μ9 : TMem} {μ1 : TMem} (hT : ∀ j, j < 3 * D.1 → D.2.1 j < D.1) (h : TFI D μ1 D.1 0 0 μ9) {t : Nat} (hD : DIF D μ1 t) : ∀ n, DIF D μ9 (t + n) := by
  have h4 := h.2.2.2.1 rfl
  intro n
  induction n with
  | zero => exact fun i j hi hj ne => by rw [h4 i j hi hj]; exact hD i j hi hj ne
  | succ n ih =>
    have : DIF D μ1 (t + n) := fun i j hi hj ne => by rw [← h4 i j hi hj]; exact ih i j hi hj ne
    exact h.dif hT this
theorem e_otherGoal {a : Nat} (h : HP μ k D) (ha : a < D.1) (hQ : ∀ r : Int32, (∀ j, j < D.1 → ((nn r).testBit j = true ↔ D.2.2 j ≠ D.2.2 a)) → Qi r) : wp_X1_ofOtherGoalness k μ (nI a) Qi := by
  have d32 := h.2.1
  have L : ∀ (nf b : Nat) (v : Int32), D.1 - b < nf → b ≤ D.1 → (∀ j, j < b → ((nn v).testBit j = true ↔ D.2.2 j ≠ D.2.2 a)) → (∀ j, b ≤ j → (nn v).testBit j = false) → wpl_X1_ofOtherGoalness_4 k μ (nI a) Qi nf (nI b) v := by
    intro nf
    induction nf with
    | zero => intro b v hk; exact absurd hk (Nat.not_lt_zero _)
    | succ nf ih =>
      intro b v hk' hb h1 h2
      refine ⟨fun c => ?_, fun c => ?_⟩
      · rw [h.2.2.2.1, nI_leI (by omega) (by omega)] at c
        exact hQ v (fun j hj => h1 j (by omega))
      rw [h.2.2.2.1, nI_leI (by omega) (by omega)] at c
      refine e_goal h (by omega) (e_goal h ha ⟨fun z => ?_, fun z => ?_⟩)
      · rw [bi_inj] at z
        rw [nI_1]
        refine ih (b + 1) v (by omega) (by omega) (fun j hj => ?_) (fun j hj => h2 j (by omega))
        by_cases e : j = b
        · rw [e, h2 b (Nat.le_refl _), z]
          exact ⟨fun w => (by cases w), fun w => absurd rfl w⟩
        · exact h1 j (by omega)
      · rw [bi_inj] at z
        rw [nI_1]
        refine ih (b + 1) _ (by omega) (by omega) (fun j hj => ?_) (fun j hj => ?_)
        · rw [nn_or, nn_two _ (by omega), s_or2, Bool.or_eq_true, decide_eq_true_iff]
          by_cases e : j = b
          · rw [e]; exact ⟨fun _ => z, fun _ => Or.inr rfl⟩
          · rw [h1 j (by omega)]
            exact ⟨fun w => w.elim id (fun y => absurd y.symm e), Or.inl⟩
        · rw [nn_or, nn_two _ (by omega), s_or2, h2 j (by omega), decide_eq_false (by omega)]; rfl
  have g := L (D.1 + 1) 0 0 (by omega) (Nat.zero_le _) (fun j hj => absurd hj (Nat.not_lt_zero _)) (fun j _ => by rw [nn_0, Nat.zero_testBit])
  rw [nI_0] at g
  exact ⟨_, g⟩
theorem e_firstNot {a : Nat} (ha : a < D.1) (h32 : D.1 ≤ 32) (hm : ∀ j, j < D.1 → (mb μ a j = true ↔ PL D a ≠ PL D j)) (hQ : Qi (nI (PL D a))) : wp_X1_firstNotUnlike μ (nI a) Qi := by
  have hle := PRT_le (D := D) D.1 a
  have L : ∀ (nf b : Nat), a - b < nf → b ≤ PL D a → wpl_X1_firstNotUnlike_2 μ (nI a) Qi nf (nI b) := by
    intro nf
    induction nf with
    | zero => intro b hk; exact absurd hk (Nat.not_lt_zero _)
    | succ nf ih =>
      intro b hk' hb
      have hle' : PL D a ≤ a := hle
      refine ⟨fun c => ?_, fun c => ?_⟩
      · rw [nI_leI (by omega) (by omega)] at c
        rw [show PL D a = a by omega] at hQ
        exact hQ
      rw [nI_leI (by omega) (by omega)] at c
      refine e_row (k := 27) (show _ < 32 by omega) (e_isIn (by omega) ⟨fun z => ?_, fun z => ?_⟩)
      · rw [bi_0] at z
        have ne : b ≠ PL D a := fun e => by
          have g : mb μ a b = true := by simpa [mb] using z
          rw [hm b (by omega), e, PL_id] at g
          exact g rfl
        rw [nI_1]
        exact ih (b + 1) (by omega) (by omega)
      · rw [bi_0] at z
        have e : PL D a = PL D b := Classical.byContradiction (fun w => by
          have g := (hm b (by omega)).mpr w
          rw [show mb μ a b = false from z] at g
          cases g)
        have hb2 : PL D b ≤ b := PRT_le _ _
        rw [show PL D a = b by omega] at hQ
        exact hQ
  have g := L (a + 1) 0 (by omega) (Nat.zero_le _)
  rw [nI_0] at g
  exact ⟨_, g⟩
theorem e_findByPairs (hk : kd k = 5) (h : HP μ k D) (hQ : ∀ μ9 : TMem, (∀ i, i < D.1 → μ9 24 i = nI (PL D i)) → (∀ q, q ≠ 24 → q ≠ 28 → μ9 q = μ q) → Qv μ9) : wp_X1_findByPairs k μ Qv := by
  have q := (kd5 hk)
  have b1 := h.1
  have b2 := h.2.1
  have b3 := h.2.2.1
  have same : ∀ {μ1 : TMem}, (∀ q, q ≠ 24 → q ≠ 28 → μ1 q = μ q) → HP μ1 k D := fun hf => h.same (hf _ (by omega) (by omega)) (hf _ (by omega) (by omega))
  have same8 : ∀ {μ1 : TMem}, (∀ q, q ≠ 28 → μ1 q = μ q) → HP μ1 k D := fun hf => same (fun q _ q2 => hf q q2)
  -- the end: each one's part
  have L58 : ∀ (nf i : Nat) (μ1 : TMem), D.1 - i < nf → i ≤ D.1 → (∀ a j, a < D.1 → j < D.1 → (mb μ1 a j = true ↔ PL D a ≠ PL D j)) → (∀ j, j < i → μ1 24 j = nI (PL D j)) → (∀ q, q ≠ 24 → q ≠ 28 → μ1 q = μ q) → wpl_X1_findByPairs_58 k Qv nf (nI i) μ1 := by
    intro nf
    induction nf with
    | zero => intro i μ1 hk; exact absurd hk (Nat.not_lt_zero _)
    | succ nf ih =>
      intro i μ1 hk' hi hm hp hf
      have hP1 := same hf
      refine ⟨fun c => ?_, fun c => ?_⟩
      · rw [hP1.2.2.2.1, nI_leI (by omega) (by omega)] at c
        exact hQ μ1 (fun j hj => hp j (by omega)) hf
      rw [hP1.2.2.2.1, nI_leI (by omega) (by omega)] at c
      refine e_firstNot (by omega) b2 (hm i · (by omega)) (e_rowput (k := 23) (show _ < 32 by omega) ?_)
      rw [nI_1]
      refine ih (i + 1) _ (by omega) (by omega) (fun a j ha hj => ?_) (fun j hj => ?_) (fun q q1 q2 => by rw [tms_ne q1]; exact hf q q1 q2)
      · rw [mb, tms_ne (by decide)]; exact hm a j ha hj
      · rw [tms_eq]
        by_cases e : j = i
        · rw [e, upd_at]
        · rw [upd_ne e]; exact hp j (by omega)
  have fin : ∀ (μ1 : TMem), UOK D μ1 → (∃ t, D.1 ≤ t ∧ DIF D μ1 t) → (∀ q, q ≠ 28 → μ1 q = μ q) → ∃ n20x, wpl_X1_findByPairs_58 k Qv n20x (0 : Int32) μ1 := fun μ1 hU ⟨t, ht, hD⟩ hf => by
    have g := L58 (D.1 + 1) 0 μ1 (by omega) (Nat.zero_le _) (fun a j ha hj => ⟨fun g => hU.2 a j ha hj g, fun ne => hD a j ha hj (fun e => ne (by
      rw [PL_of b3 b1 (Or.inl ht) a ha, PL_of b3 b1 (Or.inl ht) j hj] at e
      exact e))⟩) (fun j hj => absurd hj (Nat.not_lt_zero _)) (fun q _ q2 => hf q q2)
    rw [nI_0] at g
    exact ⟨_, g⟩
  -- the passes
  have L33 : ∀ (nf n : Nat) (v : Int32) (μ1 : TMem), 1024 - n < nf → n ≤ 1024 → UOK D μ1 → (v = 0 → ∃ t, D.1 ≤ t ∧ DIF D μ1 t) → (∃ t, n ≤ t ∧ DIF D μ1 t) → (∀ q, q ≠ 28 → μ1 q = μ q) → wpl_X1_findByPairs_33 k (fun (μ20 : TMem) => ∃ n20x, wpl_X1_findByPairs_58 k Qv n20x (0 : Int32) μ20) nf (nI n) v μ1 := by
    intro nf
    induction nf with
    | zero => intro n v μ1 hk; exact absurd hk (Nat.not_lt_zero _)
    | succ nf ih =>
      intro n v μ1 hk' hn hU h0 hD hf
      refine ⟨fun c => ?_, fun c => ⟨fun z => fin μ1 hU (h0 z) hf, fun z => ?_⟩⟩
      · rw [show (1024 : Int32) = nI 1024 from rfl, nI_leI (by omega) (by omega)] at c
        obtain ⟨t, ht, hD⟩ := hD
        exact fin μ1 hU ⟨t, by omega, hD⟩ hf
      rw [show (1024 : Int32) = nI 1024 from rfl, nI_leI (by omega) (by omega)] at c
      obtain ⟨t, ht, hD⟩ := hD
      refine e_tellFurther hk (same8 hf) hU (fun v' μ9 hI => ?_)
      rw [nI_1]
      refine ih (n + 1) v' μ9 (by omega) (by omega) hI.1 (fun e => ?_) ⟨t + 1, by omega, hI.dif b3 hD⟩ (fun q hq => (hI.2.2.2.2.1 q hq).trans (hf q hq))
      rw [e] at hI
      exact ⟨t + D.1, by omega, DIF.all b3 hI hD D.1⟩
  -- the beginning
  have L2 : ∀ (nf i : Nat) (μ1 : TMem), D.1 - i < nf → i ≤ D.1 → (∀ a j, a < i → j < D.1 → (mb μ1 a j = true ↔ D.2.2 j ≠ D.2.2 a)) → (∀ q, q ≠ 28 → μ1 q = μ q) → wpl_X1_findByPairs_2 k (fun (μ10 : TMem) => ∃ n10x, wpl_X1_findByPairs_33 k (fun (μ20 : TMem) => ∃ n20x, wpl_X1_findByPairs_58 k Qv n20x (0 : Int32) μ20) n10x (0 : Int32) (1 : Int32) μ10) nf (nI i) μ1 := by
    intro nf
    induction nf with
    | zero => intro i μ1 hk; exact absurd hk (Nat.not_lt_zero _)
    | succ nf ih =>
      intro i μ1 hk' hi hm hf
      have hP1 := same8 hf
      refine ⟨fun c => ?_, fun c => ?_⟩
      · rw [hP1.2.2.2.1, nI_leI (by omega) (by omega)] at c
        have hm' : ∀ a j, a < D.1 → j < D.1 → (mb μ1 a j = true ↔ D.2.2 j ≠ D.2.2 a) := fun a j ha hj => hm a j (by omega) hj
        have g := L33 1025 0 1 μ1 (by omega) (by omega) ⟨fun a j ha hj => ?_, fun a j ha hj g e => ?_⟩ (fun w => absurd w (by decide)) ⟨0, Nat.le_refl _, fun a j ha hj ne => (hm' a j ha hj).mpr (fun e => ne (PRT_0.mpr e.symm))⟩ hf
        · rw [nI_0] at g
          exact ⟨_, g⟩
        · rw [Bool.eq_iff_iff, hm' a j ha hj, hm' j a hj ha]
          exact ⟨Ne.symm, Ne.symm⟩
        · exact (hm' a j ha hj).mp g ((PL_stb b3 b1 ha hj).mp e).1.symm
      rw [hP1.2.2.2.1, nI_leI (by omega) (by omega)] at c
      refine e_otherGoal hP1 (by omega) (fun r hr => e_rowput (k := 27) (show _ < 32 by omega) ?_)
      rw [nI_1]
      refine ih (i + 1) _ (by omega) (by omega) (fun a j ha hj => ?_) (fun q hq => by rw [tms_ne hq]; exact hf q hq)
      rw [mb, tms_eq]
      by_cases e : a = i
      · rw [e, upd_at]; exact hr j hj
      · rw [upd_ne e]; exact hm a j (by omega) hj
  have g := L2 (D.1 + 1) 0 μ (by omega) (Nat.zero_le _) (fun a j ha => absurd ha (Nat.not_lt_zero _)) (fun _ _ => rfl)
  rw [nI_0] at g
  exact ⟨_, g⟩
end SIMP
