section SOV
variable {μ : TMem} {n ch : Int32} {Q : Int32 → Prop} {Qm : Int32 → TMem → Prop} {Qv : TMem → Prop}
def SR9 (n ch seed a1 : Int32) (μ μ9 : TMem) (i : Nat) : Prop := FQ μ μ9 ∧ (∀ k, k ≠ 4 → μ9 k = μ k) ∧ (∀ j, j < i → μ9 4 (LK a1 j) = CE n ch seed j) ∧ ∀ j, i ≤ j → j < 21 → μ9 4 (LK a1 j) = 0
theorem r_61 {a1 seed : Int32} {K : Int32 → TMem → Prop} (hm : M1 a1) (hn1 : 1 ≤ n.toInt) (hn7 : n.toInt ≤ 7) (hc : 0 ≤ ch.toInt ∧ ch.toInt ≤ 6) (h0 : SR9 n ch seed a1 μ μ 0) (hK : ∀ μ9 : TMem, SR9 n ch seed a1 μ μ9 (3 * n.toInt.toNat) → K (XS n ch seed (3 * n.toInt.toNat)) μ9) : ∃ nf, wpl_X11_sow_61 a1 n ch K nf 0 seed μ := by
  have L70 : ∀ (v19 : Int32) (a : Nat) (K2 : Int32 → TMem → Prop), v19.toInt = a → a ≤ 6 → (∀ μ9 : TMem, SR9 n ch seed a1 μ μ9 (3 * a + 3) → K2 (XS n ch seed (3 * a + 3)) μ9) → ∀ (nf : Nat) (v18 v20 : Int32) (b : Nat) (μ24 : TMem), 3 - b < nf → v18.toInt = b → b ≤ 3 → v20 = XS n ch seed (3 * a + b) → SR9 n ch seed a1 μ μ24 (3 * a + b) → wpl_X11_sow_70 v19 a1 n ch K2 nf v18 v20 μ24 := by
    intro v19 a K2 hv ha hK2 nf
    induction nf with
    | zero => intro v18 v20 b μ24 hk; exact absurd hk (Nat.not_lt_zero _)
    | succ nf ih =>
      intro v18 v20 b μ24 hk1 hb hb3 hx hS
      refine ⟨fun c => ?_, fun c => ?_⟩
      · rw [l_le, show (3 : Int32).toInt = 3 from rfl] at c
        have e : b = 3 := by omega
        subst e
        rw [hx]
        exact hK2 μ24 hS
      have c1 := nle c
      have e1 := inc_i c
      rw [show (3 : Int32).toInt = 3 from rfl] at c1
      obtain ⟨s1, s2, s3, s4⟩ := hS
      refine r_79 hb hv (by omega) ha hm hn1 hn7 hc s1.1 (s4 _ (Nat.le_refl _) (by omega)) (fun μ9 f9 m9 k9 x9 => ih _ _ (b + 1) μ9 (by omega) (by omega) (by omega) (by rw [hx]; rfl) ⟨s1.trans f9, fun k hk => (k9 k hk).trans (s2 k hk), fun j hj => ?_, fun j h1 h2 => ?_⟩)
      · by_cases e : j = 3 * a + b
        · rw [e, x9, hx]
          rfl
        · rw [m9 _ (by unfold LK; omega)]
          exact s3 j (by omega)
      · rw [m9 _ (by unfold LK; omega)]
        exact s4 j (by omega) h2
  have L61 : ∀ (nf : Nat) (v10 v11 : Int32) (a : Nat) (μ15 : TMem), 7 - a < nf → v10.toInt = a → (a : Int) ≤ n.toInt → v11 = XS n ch seed (3 * a) → SR9 n ch seed a1 μ μ15 (3 * a) → wpl_X11_sow_61 a1 n ch K nf v10 v11 μ15 := by
    intro nf
    induction nf with
    | zero => intro v10 v11 a μ15 hk; exact absurd hk (Nat.not_lt_zero _)
    | succ nf ih =>
      intro v10 v11 a μ15 hk1 hv han hx hS
      refine ⟨fun c => ?_, fun c => ?_⟩
      · rw [l_le] at c
        have e : a = n.toInt.toNat := by omega
        rw [hx, e]
        rw [e] at hS
        exact hK μ15 hS
      have c1 := nle c
      have e1 := inc_i c
      exact ⟨_, L70 v10 a _ hv (by omega) (fun μ9 hS9 => ih _ _ (a + 1) μ9 (by omega) (by omega) (by omega) rfl hS9) _ 0 v11 0 μ15 (Nat.lt_succ_self _) rfl (by omega) hx hS⟩
  exact ⟨_, L61 _ 0 seed 0 μ (Nat.lt_succ_self _) rfl (by omega) rfl h0⟩
theorem r_193 {a1 x0 : Int32} {K : TMem → Prop} (hm : M1 a1) (hn7 : n.toInt ≤ 7) (hI : RI μ) (hK : ∀ μ9 : TMem, FQ μ μ9 → (∀ k, k ≠ 3 → μ9 k = μ k) → K μ9) : ∃ nf, wpl_X11_sow_193 a1 n K nf 0 x0 μ := by
  have L : ∀ (nf : Nat) (v58 v59 : Int32) (μ62 : TMem), ((7 : Int) - v58.toInt).toNat < nf → FQ μ μ62 → (∀ k, k ≠ 3 → μ62 k = μ k) → wpl_X11_sow_193 a1 n K nf v58 v59 μ62 := by
    intro nf
    induction nf with
    | zero => intro v58 v59 μ62 hk; exact absurd hk (Nat.not_lt_zero _)
    | succ nf ih =>
      intro v58 v59 μ62 hk f m
      refine ⟨fun _ => hK _ f m, fun c => ?_⟩
      have c1 := nle c
      have e1 := inc_i c
      exact ⟨fun _ => ih _ _ _ (by omega) f m, fun _ => ⟨hm.in4, hm.in4, ih _ _ _ (by omega) (f.st (by decide) (Or.inl (by decide))) (fun k hk => by simp only [tms, if_neg hk]; exact m k hk)⟩⟩
  exact ⟨_, L _ 0 x0 μ (Nat.lt_succ_self _) (FQ.rf hI) (fun _ _ => rfl)⟩
theorem r_clear {a1 : Int32} (hm : M1 a1) (hI : RI μ) (hn1 : 1 ≤ n.toInt) (hn7 : n.toInt ≤ 7) (h : ∀ μ9 : TMem, FQ μ μ9 → μ9 0 = μ 0 → (∀ j, j < 21 → μ9 4 (LK a1 j) = 0) → Qv μ9) : wp_X11_clear μ a1 n Qv := by
  have f0 : FQ μ (tms (tms (tms μ 1 a1.toNatClampNeg n) 2 a1.toNatClampNeg (1 : Int32)) 3 a1.toNatClampNeg (0 : Int32)) := (((FQ.rf hI).m ⟨hn1, hn7⟩).st (by decide) (Or.inl (by decide))).st (by decide) (Or.inl (by decide))
  have L : ∀ (nf : Nat) (v5 : Int32) (i : Nat) (μ7 : TMem), 21 - i < nf → v5.toInt = i → i ≤ 21 → FQ μ μ7 → μ7 0 = μ 0 → (∀ j, j < i → μ7 4 (LK a1 j) = 0) → wpl_X11_clear_23 a1 Qv nf v5 μ7 := by
    intro nf
    induction nf with
    | zero => intro v5 i μ7 hk; exact absurd hk (Nat.not_lt_zero _)
    | succ nf ih =>
      intro v5 i μ7 hk1 hi hi21 f m z
      refine ⟨fun c => ?_, fun c => ?_⟩
      · rw [l_le, show (21 : Int32).toInt = 21 from rfl] at c
        have e : i = 21 := by omega
        subst e
        exact h μ7 f m z
      have c1 := nle c
      have e1 := inc_i c
      rw [show (21 : Int32).toInt = 21 from rfl] at c1
      have h1 := hm.1
      have h2 := hm.2
      refine t_key0 hm (fun r9 e9 g9 => ⟨g9 _ (by omega) (by omega), ?_⟩)
      have k : (r9 + v5).toInt = r9.toInt + v5.toInt := ii_a rfl rfl (by omega) (by omega)
      have kc : (r9 + v5).toNatClampNeg = LK a1 i := by rw [ii_cl, k, LK]; omega
      rw [kc]
      refine ih _ (i + 1) _ (by omega) (by omega) (by omega) (f.st (by decide) (Or.inl (by decide))) ?_ (fun j hj => ?_)
      · rw [← m]
        funext z
        simp [tms]
      · by_cases e : j = i
        · rw [e]
          simp [tms, upd]
        · have : LK a1 j ≠ LK a1 i := by unfold LK; omega
          simp only [tms, upd, if_true, if_neg this]
          exact z j (by omega)
  exact ⟨hm.in4, hm.in4, hm.in4, _, L _ 0 0 _ (Nat.lt_succ_self _) rfl (by omega) f0 (by funext z; simp [tms]) (fun j hj => absurd hj (Nat.not_lt_zero _))⟩
theorem r_arrowsOf {a1 seed : Int32} (hm : M1 a1) (hn7 : n.toInt ≤ 7) (h1 : ∀ j, j < 3 * n.toInt.toNat → μ 4 (LK a1 j) = CE n ch seed j) (h0 : ∀ j, 3 * n.toInt.toNat ≤ j → j < 21 → μ 4 (LK a1 j) = 0) (h : Q (AN n ch seed (3 * n.toInt.toNat))) : wp_X11_arrowsOf μ a1 Q := by
  have ha := hm.1
  have hb := hm.2
  have L : ∀ (nf : Nat) (v3 v4 : Int32) (i : Nat), 21 - i < nf → v3.toInt = 21 * a1.toInt + i → i ≤ 21 → v4 = AN n ch seed (min i (3 * n.toInt.toNat)) → wpl_X11_arrowsOf_9 μ a1 Q nf v3 v4 := by
    intro nf
    induction nf with
    | zero => intro v3 v4 i hk; exact absurd hk (Nat.not_lt_zero _)
    | succ nf ih =>
      intro v3 v4 i hk1 hi hi21 hv
      refine t_key0 hm (fun r6 e6 _ => ⟨fun c => ?_, fun c => ?_⟩)
      · have k : (r6 + (21 : Int32)).toInt = r6.toInt + 21 := ii_a rfl rfl (by omega) (by omega)
        rw [l_le, k] at c
        have e : min i (3 * n.toInt.toNat) = 3 * n.toInt.toNat := by omega
        rw [hv, e]
        exact h
      have k : (r6 + (21 : Int32)).toInt = r6.toInt + 21 := ii_a rfl rfl (by omega) (by omega)
      have c1 := nle c
      have e1 := inc_i c
      rw [k] at c1
      have kc : v3.toNatClampNeg = LK a1 i := by rw [ii_cl, LK]; omega
      refine ⟨in84 (by omega) (by omega), pop_w (ih _ _ (i + 1) (by omega) (by omega) (by omega) ?_)⟩
      rw [kc, hv]
      by_cases e : i < 3 * n.toInt.toNat
      · rw [h1 i e, show min i (3 * n.toInt.toNat) = i by omega, show min (i + 1) (3 * n.toInt.toNat) = i + 1 by omega]
        rfl
      · rw [h0 i (by omega) (by omega), pop_0, show min i (3 * n.toInt.toNat) = min (i + 1) (3 * n.toInt.toNat) by omega, Int32.add_zero]
  exact t_key0 hm (fun r1 e1 _ => ⟨_, L _ r1 0 0 (Nat.lt_succ_self _) (by omega) (by omega) (by rw [Nat.zero_min]; rfl)⟩)
/-- what isThrown keeps and tells -/
theorem r_thrown {a1 a2 : Int32} (h : ∀ t : Int32, t = (if a1 = 0 then 1 else if a2 = 0 then 2 else 0) → Qm (if t = 0 then 0 else 1) (tms μ 0 7 t)) : wp_X11_isThrown μ a1 a2 Qm := by
  have e : ∀ t : Int32, (tms μ 0 7 t) 0 7 = t := fun t => by simp [tms, upd]
  intro J hJ
  refine ⟨fun c1 => ⟨fun c2 => hJ _ ?_, fun c2 => hJ _ ?_⟩, fun c1 => hJ _ ?_⟩
  · rw [e]
    exact ⟨fun _ => h 0 (by rw [if_neg c1, if_neg c2]), fun z => absurd (by decide) z⟩
  · rw [e]
    exact ⟨fun z => absurd z (by decide), fun _ => h 2 (by rw [if_neg c1, if_pos c2])⟩
  · rw [e]
    exact ⟨fun z => absurd z (by decide), fun _ => h 1 (by rw [if_pos c1])⟩
end SOV
