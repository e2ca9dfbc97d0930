section SOY
variable {μ : TMem} {k0 : Nat} {n ch : Int32}
theorem fr_slot {a b : TMem} {i : Nat} {v : Int32} (hk : kd k0 = 2) (h : Fr 3 a b) : Fr 3 a (tms b k0 i v) := Fr.st h (by rw [show kd k0 = 2 from hk] <;> rfl) (Or.inl (ne43 (K := 2) hk (by decide)))
theorem e_goals (hk : kd k0 = 2) (hn : μ k0 1 = n) (hn7 : n.toInt ≤ 7) {Q : TMem → Prop} (h : ∀ μ9 : TMem, Fr 3 μ μ9 → μ9 k0 1 = n → μ9 (k0 + 1) = μ (k0 + 1) → Q μ9) : wp_X2_sowGoals k0 μ Q := by
  have L : ∀ (nf : Nat) (v2 : Int32) (μ3 : TMem), ((7 : Int) - v2.toInt).toNat < nf → Fr 3 μ μ3 → μ3 k0 1 = n → μ3 (k0 + 1) = μ (k0 + 1) → wpl_X2_sowGoals_2 k0 Q nf v2 μ3 := by
    intro nf
    induction nf with
    | zero => intro v2 μ3 hk; exact absurd hk (Nat.not_lt_zero _)
    | succ nf ih =>
      intro v2 μ3 hk1 f3 s3 c3
      refine ⟨fun _ => h μ3 f3 s3 c3, fun c => e_draw (fun μ9 f9 m9 x9 => ?_)⟩
      rw [s3] at c
      have c1 := nle c
      have e1 := inc_i c
      have a1 : μ9 k0 1 = n := by rw [m9 k0 (k14 hk).1]; exact s3
      have a2 : μ9 (k0 + 1) = μ (k0 + 1) := (m9 _ (k14 hk).2).trans c3
      refine ⟨fun _ => ih _ μ9 (by omega) (f3.trans f9) a1 a2, fun _ => ih _ _ (by omega) (fr_slot hk (f3.trans f9)) ?_ ?_⟩
      · simp only [tms, upd, if_true]
        exact a1
      · have : k0 + 1 ≠ k0 := by omega
        simp only [tms, if_neg this]
        exact a2
  exact ⟨_, L _ 0 μ (Nat.lt_succ_self _) Fr.rf hn rfl⟩
theorem e_count {seed : Int32} (hk : kd k0 = 2) (hn : μ k0 1 = n) (hn1 : 1 ≤ n.toInt) (hn7 : n.toInt ≤ 7) (hc : ∀ i, i < 3 * n.toInt.toNat → μ (k0 + 1) i = CE n ch seed i) {Q : Int32 → Prop} (h : Q (AN n ch seed (3 * n.toInt.toNat))) : wp_X2_countArrows k0 μ Q := by
  have L14 : ∀ (v7 : Int32) (a : Nat) (K : Int32 → Prop), v7.toInt = a → (a : Int) < n.toInt → K (AN n ch seed (3 * a + 3)) → ∀ (nf : Nat) (v6 v8 : Int32) (b : Nat), 3 - b < nf → v6.toInt = b → b ≤ 3 → v8 = AN n ch seed (3 * a + b) → wpl_X2_countArrows_14 k0 μ v7 K nf v6 v8 := by
    intro v7 a K hv ha hK nf
    induction nf with
    | zero => intro v6 v8 b hk; exact absurd hk (Nat.not_lt_zero _)
    | succ nf ih =>
      intro v6 v8 b hk1 hb hb3 hS
      refine ⟨fun c => ?_, fun c => ?_⟩
      · rw [l_le, show (3 : Int32).toInt = 3 from rfl] at c
        have e : b = 3 := by omega
        subst e
        rw [hS]
        exact hK
      have c1 := nle c
      have e1 := inc_i c
      rw [show (3 : Int32).toInt = 3 from rfl] at c1
      refine e_at hk (i := a) (j := b) hv hb (by omega) (by omega) (pop_w (ih _ _ (b + 1) (by omega) (by omega) (by omega) ?_))
      rw [hS, hc _ (by omega)]
      rfl
  have L4 : ∀ (nf : Nat) (v2 v3 : Int32) (a : Nat), 7 - a < nf → v2.toInt = a → (a : Int) ≤ n.toInt → v3 = AN n ch seed (3 * a) → wpl_X2_countArrows_4 k0 μ Q nf v2 v3 := by
    intro nf
    induction nf with
    | zero => intro v2 v3 a hk; exact absurd hk (Nat.not_lt_zero _)
    | succ nf ih =>
      intro v2 v3 a hk1 hv han hS
      refine ⟨fun c => ?_, fun c => ?_⟩
      · rw [hn, l_le] at c
        have e : a = n.toInt.toNat := by omega
        rw [hS, e]
        exact h
      have c1 := nle c
      have e1 := inc_i c
      rw [hn] at c1
      exact ⟨_, L14 v2 a _ hv (by omega) (ih _ _ (a + 1) (by omega) (by omega) (by omega) rfl) _ 0 v3 0 (Nat.lt_succ_self _) rfl (by omega) hS⟩
  exact ⟨_, L4 _ 0 0 0 (Nat.lt_succ_self _) rfl (by omega) rfl⟩
theorem e_clear (hk : kd k0 = 2) (hn1 : 1 ≤ n.toInt) (hn7 : n.toInt ≤ 7) {Q : TMem → Prop} (h : ∀ μ9 : TMem, Fr 3 μ μ9 → μ9 k0 1 = n → (∀ k, k ≠ k0 → k ≠ k0 + 1 → μ9 k = μ k) → Q μ9) : wp_X2_clear k0 μ n Q := by
  have hne : k0 + 1 ≠ k0 := by omega
  have ha : ∀ (a : Nat) (μ4 : TMem) (K : TMem → Prop), (μ4 k0 1).toInt = a → a ≤ 6 → (∀ μ9 : TMem, Fr 3 μ4 μ9 → μ9 k0 1 = μ4 k0 1 + 1 → (∀ k, k ≠ k0 → k ≠ k0 + 1 → μ9 k = μ4 k) → K μ9) → wp_X2_addState k0 μ4 K := by
    intro a μ4 K hA ha6 hK
    have L : ∀ (nf : Nat) (v2 : Int32) (b : Nat) (μ3 : TMem), 3 - b < nf → v2.toInt = b → Fr 3 μ4 μ3 → μ3 k0 = μ4 k0 → (∀ k, k ≠ k0 → k ≠ k0 + 1 → μ3 k = μ4 k) → wpl_X2_addState_2 k0 K nf v2 μ3 := by
      intro nf
      induction nf with
      | zero => intro v2 b μ3 hk; exact absurd hk (Nat.not_lt_zero _)
      | succ nf ih =>
        intro v2 b μ3 hk1 hb f3 s3 m3
        refine ⟨fun _ => hK _ (fr_slot hk f3) ?_ (fun k h1 h2 => ?_), fun c => ?_⟩
        · simp only [tms, upd, if_true]
          rw [s3]
        · simp only [tms, if_neg h1]
          exact m3 k h1 h2
        have c1 := nle c
        have e1 := inc_i c
        rw [show (3 : Int32).toInt = 3 from rfl] at c1
        refine e_put hk (i := a) (j := b) (by rw [s3]; exact hA) hb ha6 (by omega) (fun f8 => ih _ (b + 1) _ (by omega) (by omega) (f3.trans f8) ?_ (fun k h1 h2 => ?_))
        · have : k0 ≠ k0 + 1 := by omega
          funext z
          simp only [tms, if_neg this]
          rw [s3]
        · simp only [tms, if_neg h2]
          exact m3 k h1 h2
    exact ⟨_, L _ 0 0 μ4 (Nat.lt_succ_self _) rfl Fr.rf rfl (fun _ _ _ => rfl)⟩
  have L12 : ∀ (nf : Nat) (v2 : Int32) (a : Nat) (μ4 : TMem), 7 - a < nf → v2.toInt = a → (a : Int) ≤ n.toInt → μ4 k0 1 = v2 → Fr 3 μ μ4 → (∀ k, k ≠ k0 → k ≠ k0 + 1 → μ4 k = μ k) → wpl_X2_clear_12 k0 n Q nf v2 μ4 := by
    intro nf
    induction nf with
    | zero => intro v2 a μ4 hk; exact absurd hk (Nat.not_lt_zero _)
    | succ nf ih =>
      intro v2 a μ4 hk1 hv han s4 f4 m4
      refine ⟨fun c => h _ (fr_slot hk f4) ?_ (fun k h1 h2 => ?_), fun c => ?_⟩
      · rw [l_le] at c
        have e : v2 = n := l_eq.mpr (by omega)
        simp only [tms, upd, if_true]
        rw [if_neg (by decide), s4, e]
      · simp only [tms, if_neg h1]
        exact m4 k h1 h2
      have c1 := nle c
      have e1 := inc_i c
      exact ha a μ4 _ (by rw [s4]; exact hv) (by omega) (fun μ9 f9 s9 m9 => ih _ (a + 1) μ9 (by omega) (by omega) (by omega) (by rw [s9, s4]) (f4.trans f9) (fun k h1 h2 => (m9 k h1 h2).trans (m4 k h1 h2)))
  refine ⟨_, L12 _ 0 0 _ (Nat.lt_succ_self _) rfl (by omega) ?_ (fr_slot hk (fr_slot hk Fr.rf)) (fun k h1 h2 => ?_)⟩
  · simp [tms, upd]
  · simp only [tms, if_neg h1]
end SOY
