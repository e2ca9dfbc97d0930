section SOX
variable {μ : TMem} {k0 : Nat} {n ch : Int32}
theorem tl21 (hk : kd k0 = 2) : 21 ≤ tl (k0 + 1) := by
  have h : ∀ k : Nat, k < 59 → kd k = 2 → 21 ≤ tl (k + 1) := by decide
  by_cases e : k0 < 59
  · exact h k0 e hk
  · have h9 : kd k0 = 99 := by
      unfold kd
      rw [List.getD_eq_getElem?_getD, List.getElem?_eq_none (by simp [tkl]; omega)]
      rfl
    rw [h9] at hk
    exact absurd hk (by decide)
theorem tlhi (k : Nat) : tl k ≤ 1024 := by
  by_cases e : k < 59
  · have h : ∀ k : Nat, k < 59 → tl k ≤ 1024 := by decide
    exact h k e
  · have h9 : tl k = 0 := by
      unfold tl
      rw [List.getD_eq_getElem?_getD, List.getElem?_eq_none (by simp [tll]; omega)]
      rfl
    omega
theorem plc {a b : Int32} {i j : Nat} (ha : a.toInt = i) (hb : b.toInt = j) (hi : i ≤ 6) (hj : j ≤ 2) : (a * (3 : Int32) + b).toInt = 3 * (i : Int) + j ∧ (a * (3 : Int32) + b).toNatClampNeg = 3 * i + j := by
  have k : (a * (3 : Int32) + b).toInt = (i : Int) * 3 + j := ii_a (ii_m ha rfl (by omega) (by omega)) hb (by omega) (by omega)
  exact ⟨by omega, by rw [ii_cl, k]; omega⟩
theorem e_put (hk : kd k0 = 2) {a b v : Int32} {i j : Nat} (ha : a.toInt = i) (hb : b.toInt = j) (hi : i ≤ 6) (hj : j ≤ 2) {Q : TMem → Prop} (h : Fr 3 μ (tms μ (k0 + 1) (3 * i + j) v) → Q (tms μ (k0 + 1) (3 * i + j) v)) : wp_X7_put k0 μ a b v Q := by
  obtain ⟨p1, p2⟩ := plc ha hb hi hj
  have t1 := tl21 hk
  have t2 := tlhi (k0 + 1)
  refine ⟨fun c => ?_, fun _ => ⟨fun c => ?_, fun _ => ⟨vin (by omega), ?_⟩⟩⟩
  · rw [l_lt, ii_0] at c
    omega
  · rw [l_le, ii_nI (by omega)] at c
    omega
  · rw [p2]
    exact h (Fr.st Fr.rf (by rw [show kd (k0 + 1) = 9 from ka_25 (Or.inl hk)] <;> rfl) (Or.inl (ne43b (Or.inl hk))))
theorem e_at (hk : kd k0 = 2) {a b : Int32} {i j : Nat} (ha : a.toInt = i) (hb : b.toInt = j) (hi : i ≤ 6) (hj : j ≤ 2) {Q : Int32 → Prop} (h : Q (μ (k0 + 1) (3 * i + j))) : wp_X7_at k0 μ a b Q := by
  obtain ⟨p1, p2⟩ := plc ha hb hi hj
  have t1 := tl21 hk
  have t2 := tlhi (k0 + 1)
  refine ⟨fun c => ?_, fun _ => ⟨fun c => ?_, fun _ => ⟨vin (by omega), ?_⟩⟩⟩
  · rw [l_lt, ii_0] at c
    omega
  · rw [l_le, ii_nI (by omega)] at c
    omega
  · rw [p2]
    exact h
/-- the cells before i are sown -/
def SC (n ch seed : Int32) (k0 : Nat) (μ μ4 : TMem) (i : Nat) : Prop := Fr 3 μ μ4 ∧ μ4 k0 1 = n ∧ μ4 14 0 = XS n ch seed i ∧ ∀ j, j < i → μ4 (k0 + 1) j = CE n ch seed j
theorem e_arrows {seed : Int32} (hk : kd k0 = 2) (hn1 : 1 ≤ n.toInt) (hn7 : n.toInt ≤ 7) (hc : 0 ≤ ch.toInt ∧ ch.toInt ≤ 6) (hs : SC n ch seed k0 μ μ 0) {Q : TMem → Prop} (h : ∀ μ9 : TMem, SC n ch seed k0 μ μ9 (3 * n.toInt.toNat) → Q μ9) : wp_X2_sowArrows k0 μ ch Q := by
  have L13 : ∀ (v8 : Int32) (a : Nat) (K : TMem → Prop), v8.toInt = a → a ≤ 6 → (∀ μ9, SC n ch seed k0 μ μ9 (3 * a + 3) → K μ9) → ∀ (nf : Nat) (v7 : Int32) (b : Nat) (μ4 : TMem), 3 - b < nf → v7.toInt = b → b ≤ 3 → SC n ch seed k0 μ μ4 (3 * a + b) → wpl_X2_sowArrows_13 k0 v8 ch K nf v7 μ4 := by
    intro v8 a K hv ha hK nf
    induction nf with
    | zero => intro v7 b μ4 hk; exact absurd hk (Nat.not_lt_zero _)
    | succ nf ih =>
      intro v7 b μ4 hk1 hb hb3 hS
      refine ⟨fun c => ?_, fun c => ?_⟩
      · rw [l_le, show (3 : Int32).toInt = 3 from rfl] at c
        have e : b = 3 := by omega
        subst e
        exact hK μ4 hS
      have c1 := nle c
      have e1 := inc_i c
      rw [show (3 : Int32).toInt = 3 from rfl] at c1
      obtain ⟨s1, s2, s3, s4⟩ := hS
      intro J hJ
      have key : ∀ (r : Int32) (μ9 : TMem), Fr 3 μ4 μ9 → (∀ k, k ≠ 14 → μ9 k = μ4 k) → μ9 14 0 = (CS n ch (μ4 14 0)).2 → r = (CS n ch (μ4 14 0)).1 → J r μ9 := by
        intro r μ9 f9 m9 x9 hr
        refine hJ r μ9 (e_put hk (i := a) (j := b) hv hb ha (by omega) (fun f8 => ih _ (b + 1) _ (by omega) (by omega) (by omega) ⟨(s1.trans f9).trans f8, ?_, ?_, fun j hj => ?_⟩))
        · have : k0 ≠ k0 + 1 := by omega
          simp only [tms, if_neg this]
          rw [m9 k0 (k14 hk).1]
          exact s2
        · have : (14 : Nat) ≠ k0 + 1 := fun e => (k14 hk).2 e.symm
          simp only [tms, if_neg this]
          rw [x9, s3]
          rfl
        · by_cases e : j = 3 * a + b
          · subst e
            simp only [tms, upd, if_true]
            rw [hr, s3]
            rfl
          · simp only [tms, upd, if_true, if_neg e]
            rw [m9 _ (k14 hk).2]
            exact s4 j (by omega)
      refine ⟨fun c0 => e_some hk s2 hn7 hc (fun μ9 f9 m9 x9 => key _ μ9 f9 m9 ?_ ?_), fun c0 => e_one hk s2 hn1 (fun μ9 f9 m9 x9 => key _ μ9 f9 m9 ?_ ?_)⟩
      · rw [x9, CS, if_neg c0]
      · rw [CS, if_neg c0]
      · rw [x9, CS, if_pos c0]
      · rw [CS, if_pos c0]
  have L2 : ∀ (nf : Nat) (v2 : Int32) (a : Nat) (μ4 : TMem), 7 - a < nf → v2.toInt = a → (a : Int) ≤ n.toInt → SC n ch seed k0 μ μ4 (3 * a) → wpl_X2_sowArrows_2 k0 ch Q nf v2 μ4 := by
    intro nf
    induction nf with
    | zero => intro v2 a μ4 hk; exact absurd hk (Nat.not_lt_zero _)
    | succ nf ih =>
      intro v2 a μ4 hk1 hv han hS
      have hn4 := hS.2.1
      refine ⟨fun c => ?_, fun c => ?_⟩
      · rw [hn4, l_le] at c
        have e : a = n.toInt.toNat := by omega
        rw [e] at hS
        exact h μ4 hS
      have c1 := nle c
      have e1 := inc_i c
      rw [hn4] at c1
      exact ⟨_, L13 v2 a _ hv (by omega) (fun μ9 hS9 => ih _ (a + 1) μ9 (by omega) (by omega) (by omega) hS9) _ 0 0 μ4 (Nat.lt_succ_self _) rfl (by omega) hS⟩
  exact ⟨_, L2 _ 0 0 μ (Nat.lt_succ_self _) rfl (by omega) hs⟩
end SOX
