section RTW
def Mny (μ : TMem) : Prop := ∀ j : Nat, j < 4 → 1 ≤ (μ 1 j).toInt ∧ (μ 1 j).toInt ≤ 7
theorem Mny.at {μ : TMem} (h : Mny μ) {a : Int32} (h0 : 0 ≤ a.toInt) (h1 : a.toInt ≤ 3) : 1 ≤ (μ 1 a.toNatClampNeg).toInt ∧ (μ 1 a.toNatClampNeg).toInt ≤ 7 := h _ (by rw [ii_cl]; omega)
theorem aa7 (μ : TMem) (v5 : Int32) (h5 : 0 ≤ v5.toInt) (h5' : v5.toInt ≤ 3) :
    ∀ (n : Nat) (v4 : Int32) (f7 : Nat → Int64), (21 - v4.toInt).toNat < n → 0 ≤ v4.toInt → ∃ g : Nat → Int64, ∀ μ' : TMem, μ' 4 = μ 4 → ∀ Q : Nat → (Nat → Int64) → Prop, Q 21 g → wpl_X11_arrowsAll_7 μ' 21 v5 Q n v4 f7 := by
  intro n
  induction n with
  | zero => intro v4 f7 hm; exact absurd hm (Nat.not_lt_zero _)
  | succ n ih =>
    intro v4 f7 hm h0
    by_cases c : (21 : Int32) ≤ v4
    · exact ⟨f7, fun μ' _ Q hQ => ⟨fun _ => hQ, fun q => absurd c q⟩⟩
    · have c1 := nle c
      have e1 := inc_i c
      rw [show (21 : Int32).toInt = 21 from rfl] at c1
      have k : ((((v5 * (7 : Int32)) + (0 : Int32)) * (3 : Int32) + (0 : Int32)) + v4).toInt = (((v5.toInt * 7) + 0) * 3 + 0) + v4.toInt := ii_a (ii_a (ii_m (ii_a (ii_m rfl rfl (by omega) (by omega)) rfl (by omega) (by omega)) rfl (by omega) (by omega)) rfl (by omega) (by omega)) rfl (by omega) (by omega)
      obtain ⟨g, kg⟩ := ih (v4 + 1) (vp_updL f7 v4.toNatClampNeg ((μ 4 ((((v5 * (7 : Int32)) + (0 : Int32)) * (3 : Int32) + (0 : Int32)) + v4).toNatClampNeg).toInt64)) (by omega) (by omega)
      refine ⟨g, fun μ' hμ Q hQ => ⟨fun q => absurd q c, fun _ => ?_⟩⟩
      show vp_in _ 84 ∧ (vp_in v4 21 ∧ _)
      refine ⟨vin (by omega), vin (by omega), ?_⟩
      rw [hμ]
      exact kg μ' hμ Q hQ
theorem aa (μ : TMem) (a1 : Int32) (h5 : 0 ≤ a1.toInt) (h5' : a1.toInt ≤ 3) : ∃ g : Nat → Int64, ∀ μ' : TMem, μ' 4 = μ 4 → ∀ Q : Nat → (Nat → Int64) → Prop, Q 21 g → wp_X11_arrowsAll μ' a1 Q := by
  obtain ⟨g, k⟩ := aa7 μ a1 h5 h5' _ 0 (fun _ => 0) (Nat.lt_succ_self _) (by decide)
  exact ⟨g, fun μ' hμ Q hQ => ⟨by decide, _, k μ' hμ Q hQ⟩⟩
theorem owm (μ : TMem) (a1 : Int32) (hI : Mny μ) (h5 : 0 ≤ a1.toInt) (h5' : a1.toInt ≤ 3) : ∃ r : Option AI, OWo r ∧ ∀ μ' : TMem, (∀ k : Nat, 1 ≤ k → μ' k = μ k) → ∀ Q : Option AI → Prop, Q r → wp_X11_oneWay_ μ' a1 Q := by
  obtain ⟨g, kg⟩ := aa μ a1 h5 h5'
  have hm := hI.at h5 h5'
  obtain ⟨r, hr, kr⟩ := ow 21 g (μ 1 a1.toNatClampNeg) ((μ 2 a1.toNatClampNeg).toInt64) ((μ 3 a1.toNatClampNeg).toInt64) (0 : Int32) (by omega) (by omega)
  refine ⟨r, hr, fun μ' hμ Q hQ => kg μ' (hμ 4 (by decide)) _ ?_⟩
  show vp_in a1 4 ∧ (vp_in a1 4 ∧ (vp_in a1 4 ∧ _))
  refine ⟨vin (by omega), vin (by omega), vin (by omega), ?_⟩
  rw [hμ 1 (by decide), hμ 2 (by decide), hμ 3 (by decide)]
  refine kr _ ⟨fun e => ?_, fun n f e => ?_⟩
  · rw [e] at hQ
    exact hQ
  · rw [e] at hQ
    exact hQ
/-- a row's entry -/
theorem OW.get {n : Nat} {f : Nat → Int32} (h : OW n f) : ∃ S : Nat, 1 ≤ S ∧ S ≤ 32 ∧ n = 4 * S ∧ (∀ k s : Nat, k < S → s < 3 → 0 ≤ (f (4 * k + s)).toInt ∧ (f (4 * k + s)).toInt < S) ∧ ∀ k, k < S → (f (4 * k + 3) = 0 ∨ f (4 * k + 3) = 1) := by
  obtain ⟨S, h1, h2, h3, h4⟩ := h
  exact ⟨S, h1, h2, h3, fun k s hk hs => (h4 k hk).1 s hs, fun k hk => (h4 k hk).2⟩
theorem fourk {x y : Int32} {S : Nat} (hx : 0 ≤ x.toInt) (hx' : x.toInt < S) (hS : S ≤ 32) (hy : 0 ≤ y.toInt) (hy' : y.toInt < 4) : ((4 : Int32) * x + y).toInt = 4 * x.toInt + y.toInt ∧ ((4 : Int32) * x + y).toNatClampNeg = 4 * x.toInt.toNat + y.toInt.toNat ∧ vp_in ((4 : Int32) * x + y) (4 * S) := by
  have k : ((4 : Int32) * x + y).toInt = 4 * x.toInt + y.toInt := ii_a (ii_m rfl rfl (by omega) (by omega)) rfl (by omega) (by omega)
  exact ⟨k, by rw [ii_cl, k]; omega, vin (by omega)⟩
theorem il19 (fa1 : Nat → Int32) (S : Nat) (fa2 : Nat → Int32) (v8 v9 : Int32) (hS : S ≤ 32) (hf : ∀ k s : Nat, k < S → s < 3 → 0 ≤ (fa1 (4 * k + s)).toInt ∧ (fa1 (4 * k + s)).toInt < S) (h8 : 0 ≤ v8.toInt) (h8' : v8.toInt < S) (h9 : 0 ≤ v9.toInt) (h9' : v9.toInt < S) :
    ∀ (n : Nat) (v6 v7 : Int32), (3 - v6.toInt).toNat < n → 0 ≤ v6.toInt → isB v7 → VF (fun Q : Int32 → Prop => wpl_X11_isLike_19 fa1 (4 * S) fa2 S v8 v9 Q n v6 v7) (fun r => isB r ∧ (v8 = v9 → v7 = 1 → r = 1)) := by
  intro n
  induction n with
  | zero => intro v6 v7 hm; exact absurd hm (Nat.not_lt_zero _)
  | succ n ih =>
    intro v6 v7 hm h0 hb
    refine VF.ite (fun _ => VF.mk v7 ⟨hb, fun _ h => h⟩ (fun _ h => ⟨hb, h⟩)) (fun c => ?_)
    have c1 := nle c
    have e1 := inc_i c
    rw [show (3 : Int32).toInt = 3 from rfl] at c1
    obtain ⟨-, a2, a3⟩ := fourk h8 h8' hS h0 (by omega)
    obtain ⟨-, b2, b3⟩ := fourk h9 h9' hS h0 (by omega)
    have x1 := hf v8.toInt.toNat v6.toInt.toNat (by omega) (by omega)
    have x2 := hf v9.toInt.toNat v6.toInt.toNat (by omega) (by omega)
    rw [← a2] at x1
    rw [← b2] at x2
    refine VF.side a3 (VF.side (vin x1) (VF.side b3 (VF.side (vin x2) (VF.itn (fun z => ?_) (fun _ => ?_)))))
    · refine (ih (v6 + 1) (v7 &&& 0) (by omega) (by omega) (by rcases hb with rfl | rfl <;> exact Or.inl rfl)).imp (fun r hr => ⟨hr.1, fun e => ?_⟩)
      subst e
      exact absurd rfl z
    · exact (ih (v6 + 1) (v7 &&& 1) (by omega) (by omega) (by rcases hb with rfl | rfl; exact Or.inl rfl; exact Or.inr rfl)).imp (fun r hr => ⟨hr.1, fun e e7 => hr.2 e (by rw [e7]; rfl)⟩)
theorem il (S : Nat) (fa1 fa2 : Nat → Int32) (a3 a4 : Int32) (hS : S ≤ 32) (hf : ∀ k s : Nat, k < S → s < 3 → 0 ≤ (fa1 (4 * k + s)).toInt ∧ (fa1 (4 * k + s)).toInt < S) (h8 : 0 ≤ a3.toInt) (h8' : a3.toInt < S) (h9 : 0 ≤ a4.toInt) (h9' : a4.toInt < S) : VF (wp_X11_isLike (4 * S) fa1 S fa2 a3 a4) (fun r => isB r ∧ (a3 = a4 → r = 1)) := by
  refine VF.side (vin (by omega)) (VF.side (vin (by omega)) (VF.Jn (fun z => ?_) (fun z => ?_)))
  · refine (VF.loop _ (il19 fa1 S fa2 a3 a4 hS hf h8 h8' h9 h9' _ 0 0 (Nat.lt_succ_self _) (by decide) (Or.inl rfl))).imp (fun r hr => ⟨hr.1, fun e => ?_⟩)
    subst e
    exact absurd rfl z
  · exact (VF.loop _ (il19 fa1 S fa2 a3 a4 hS hf h8 h8' h9 h9' _ 0 1 (Nat.lt_succ_self _) (by decide) (Or.inr rfl))).imp (fun r hr => ⟨hr.1, fun e => hr.2 e rfl⟩)
theorem al11 (fa1 : Nat → Int32) (S : Nat) (v5 : Int32) (hS : S ≤ 32) (h5 : v5.toInt = S) :
    ∀ (n : Nat) (v4 : Int32) (f7 : Nat → Int32), (v5.toInt - v4.toInt).toNat < n → 0 ≤ v4.toInt → VF (fun K : (Nat → Int32) → Prop => wpl_X11_alike_11 fa1 (4 * S) S v5 K n v4 f7) (fun _ => True) := by
  intro n
  induction n with
  | zero => intro v4 f7 hm; exact absurd hm (Nat.not_lt_zero _)
  | succ n ih =>
    intro v4 f7 hm h0
    refine VF.ite (fun _ => VF.mk f7 trivial (fun _ h => h)) (fun c => ?_)
    have c1 := nle c
    have e1 := inc_i c
    obtain ⟨-, -, a3⟩ := fourk (y := 3) h0 (S := S) (by omega) hS (by decide) (by decide)
    exact VF.side a3 (VF.side (vin (by omega)) (ih _ _ (by omega) (by omega)))
theorem al56 (fa1 : Nat → Int32) (S : Nat) (f17 f27 : Nat → Int32) (n26 : Nat) (v31 v32 v33 : Int32) (hS : S ≤ 32) (hf : ∀ k s : Nat, k < S → s < 3 → 0 ≤ (fa1 (4 * k + s)).toInt ∧ (fa1 (4 * k + s)).toInt < S) (h31 : 0 ≤ v31.toInt) (h31' : v31.toInt < S) :
    ∀ (n : Nat) (v30 : Int32), (v31.toInt - v30.toInt).toNat < n → 0 ≤ v30.toInt → v30.toInt ≤ v31.toInt → VF (fun K : Int32 → Prop => wpl_X11_alike_56 fa1 (4 * S) f17 S f27 n26 v31 v32 v33 K n v30) (fun _ => True) := by
  intro n
  induction n with
  | zero => intro v30 hm; exact absurd hm (Nat.not_lt_zero _)
  | succ n ih =>
    intro v30 hm h0 h1
    obtain ⟨r, ⟨-, hr⟩, k⟩ := il S fa1 f17 v30 v31 hS hf h0 (by omega) h31 h31'
    by_cases z : r = 0
    · have hne : v30 ≠ v31 := fun e => by have := hr e; rw [z] at this; cases this
      have hne' : v30.toInt ≠ v31.toInt := fun e => hne (l_eq.mpr e)
      have e1 : (v30 + (1 : Int32)).toInt = v30.toInt + 1 := ii_a rfl rfl (by omega) (by omega)
      obtain ⟨u, -, ku⟩ := ih (v30 + 1) (by omega) (by omega) (by omega)
      exact ⟨u, trivial, fun K hK => k _ ⟨fun q => absurd z q, fun _ => ku K hK⟩⟩
    · exact ⟨v30, trivial, fun K hK => k _ ⟨fun _ => hK, fun q => absurd q z⟩⟩
theorem al47 (fa1 : Nat → Int32) (S : Nat) (f17 : Nat → Int32) (v24 v25 : Int32) (hS : S ≤ 32) (h25 : v25.toInt = S) (hf : ∀ k s : Nat, k < S → s < 3 → 0 ≤ (fa1 (4 * k + s)).toInt ∧ (fa1 (4 * k + s)).toInt < S) :
    ∀ (n : Nat) (v23 : Int32) (f27 : Nat → Int32), (v25.toInt - v23.toInt).toNat < n → 0 ≤ v23.toInt → VF (fun K : (Nat → Int32) → Prop => wpl_X11_alike_47 fa1 (4 * S) f17 S S v24 v25 K n v23 f27) (fun _ => True) := by
  intro n
  induction n with
  | zero => intro v23 f27 hm; exact absurd hm (Nat.not_lt_zero _)
  | succ n ih =>
    intro v23 f27 hm h0
    refine VF.ite (fun _ => VF.mk f27 trivial (fun _ h => h)) (fun c => ?_)
    have c1 := nle c
    have e1 := inc_i c
    obtain ⟨u, -, ku⟩ := al56 fa1 S f17 f27 S v23 v24 v25 hS hf h0 (by omega) _ 0 (Nat.lt_succ_self _) (by decide) (by rw [ii_0]; omega)
    obtain ⟨g, -, kg⟩ := ih (v23 + 1) (upd f27 v23.toNatClampNeg u) (by omega) (by omega)
    exact ⟨g, trivial, fun K hK => ⟨_, ku _ ⟨vin (by omega), kg K hK⟩⟩⟩
theorem al34 (fa1 : Nat → Int32) (S : Nat) (v18 : Int32) (hS : S ≤ 32) (h18 : v18.toInt = S) (hf : ∀ k s : Nat, k < S → s < 3 → 0 ≤ (fa1 (4 * k + s)).toInt ∧ (fa1 (4 * k + s)).toInt < S) :
    ∀ (n : Nat) (v14 : Int32) (f17 : Nat → Int32), (v18.toInt - v14.toInt).toNat < n → 0 ≤ v14.toInt → ∃ g : Nat → Int32, ∀ Q : Nat → (Nat → Int32) → Prop, Q S g → wpl_X11_alike_34 fa1 (4 * S) v18 Q n v14 S f17 := by
  intro n
  induction n with
  | zero => intro v14 f17 hm; exact absurd hm (Nat.not_lt_zero _)
  | succ n ih =>
    intro v14 f17 hm h0
    by_cases c : v18 ≤ v14
    · exact ⟨f17, fun Q hQ => ⟨fun _ => hQ, fun q => absurd c q⟩⟩
    · have c1 := nle c
      have e1 := inc_i c
      have e18 : v18.toNatClampNeg = S := by rw [ii_cl, h18]; omega
      obtain ⟨g, -, kg⟩ := al47 fa1 S f17 v14 v18 hS h18 hf _ 0 (fun _ => 0) (Nat.lt_succ_self _) (by decide)
      obtain ⟨g2, k2⟩ := ih (v14 + 1) g (by omega) (by omega)
      refine ⟨g2, fun Q hQ => ⟨fun q => absurd q c, fun _ => ⟨⟨by rw [l_lt, ii_0]; omega, by omega⟩, ?_⟩⟩⟩
      rw [e18]
      exact ⟨_, kg _ (k2 Q hQ)⟩
theorem quart {S : Nat} (hS : S ≤ 32) : ((nI (4 * S)) / (4 : Int32)).toInt = S ∧ ((nI (4 * S)) / (4 : Int32)).toNatClampNeg = S ∧ (nI (4 * S)).toInt = 4 * S ∧ (nI (4 * S)).toNatClampNeg = 4 * S := by
  have h1 : (nI (4 * S)).toInt = ((4 * S : Nat) : Int) := ii_nI (by omega)
  have h2 : ((nI (4 * S)) / (4 : Int32)).toInt = ((4 * S : Nat) : Int) / 4 := ii_d h1 rfl (by omega) (by omega)
  refine ⟨by omega, by rw [ii_cl]; omega, by omega, by rw [ii_cl]; omega⟩
theorem al (S : Nat) (fa1 : Nat → Int32) (hS : S ≤ 32) (hf : ∀ k s : Nat, k < S → s < 3 → 0 ≤ (fa1 (4 * k + s)).toInt ∧ (fa1 (4 * k + s)).toInt < S) : ∃ g : Nat → Int32, ∀ Q : Nat → (Nat → Int32) → Prop, Q S g → wp_X11_alike (4 * S) fa1 Q := by
  obtain ⟨q1, q2, q3, q4⟩ := quart hS
  obtain ⟨g, -, kg⟩ := al11 fa1 S ((nI (4 * S)) / (4 : Int32)) hS q1 _ 0 (fun _ => 0) (Nat.lt_succ_self _) (by decide)
  obtain ⟨g2, k2⟩ := al34 fa1 S ((nI (4 * S)) / (4 : Int32)) hS q1 hf (S + 1) 0 g (by rw [ii_0]; omega) (by decide)
  refine ⟨g2, fun Q hQ => ⟨⟨by rw [l_lt, ii_0]; omega, by omega⟩, ?_⟩⟩
  rw [q2]
  exact ⟨_, kg _ ⟨S + 1, by omega, k2 Q hQ⟩⟩
end RTW
