section RON
theorem nx15 (fa1 : Nat → Int64) (na1 : Nat) (v11 v13 : Int32) (v14 : Int64) (v15 v16 : Int32) (hn : 3 * v13.toInt ≤ na1) (hs : v13.toInt ≤ 1000) (h11 : 0 ≤ v11.toInt) (h11' : v11.toInt < v13.toInt) (h15 : 0 ≤ v15.toInt) (h15' : v15.toInt ≤ 2) :
    ∀ (n : Nat) (v10 : Int32) (v12 : Int64), (v13.toInt - v10.toInt).toNat < n → 0 ≤ v10.toInt → VF (fun K : Int64 → Prop => wpl_X11_next_15 fa1 na1 v11 v13 v14 v15 v16 K n v10 v12) (fun _ => True) := by
  intro n
  induction n with
  | zero => intro v10 v12 hm; exact absurd hm (Nat.not_lt_zero _)
  | succ n ih =>
    intro v10 v12 hm h10
    refine VF.ite (fun _ => VF.mk v12 trivial (fun _ h => h)) (fun c => ?_)
    have c1 := nle c
    have e1 := inc_i c
    have k1 : ((3 : Int32) * v10 + v15).toInt = 3 * v10.toInt + v15.toInt := ii_a (ii_m rfl rfl (by omega) (by omega)) rfl (by omega) (by omega)
    have k2 : ((3 : Int32) * v11 + v15).toInt = 3 * v11.toInt + v15.toInt := ii_a (ii_m rfl rfl (by omega) (by omega)) rfl (by omega) (by omega)
    refine VF.J (fun z => VF.side (vin (by omega)) ?_) (fun z => VF.side (vin (by omega)) ?_)
    · refine VF.J (fun _ => ?_) (fun q => absurd z q)
      refine VF.Jn (fun _ => ?_) (fun _ => ?_)
      · exact VF.ite (fun _ => ih _ _ (by omega) (by omega)) (fun q => absurd rfl q)
      · exact VF.ite (fun q => absurd q (by decide)) (fun _ => VF.itn (fun _ => ih _ _ (by omega) (by omega)) (fun _ => ih _ _ (by omega) (by omega)))
    · refine VF.J (fun q => absurd q z) (fun _ => ?_)
      refine VF.Jn (fun _ => ?_) (fun _ => ?_)
      · exact VF.ite (fun _ => ih _ _ (by omega) (by omega)) (fun q => absurd rfl q)
      · exact VF.ite (fun q => absurd q (by decide)) (fun _ => VF.itn (fun _ => ih _ _ (by omega) (by omega)) (fun _ => ih _ _ (by omega) (by omega)))
theorem nx6 (fa1 : Nat → Int64) (na1 : Nat) (v4 : Int32) (v5 : Int64) (v6 v7 : Int32) (hn : 3 * v4.toInt ≤ na1) (hs : v4.toInt ≤ 1000) (h6 : 0 ≤ v6.toInt) (h6' : v6.toInt ≤ 2) :
    ∀ (n : Nat) (v2 : Int32) (v3 : Int64), (v4.toInt - v2.toInt).toNat < n → 0 ≤ v2.toInt → VF (fun Q : Int64 → Prop => wpl_X11_next_6 fa1 na1 v4 v5 v6 v7 Q n v2 v3) (fun _ => True) := by
  intro n
  induction n with
  | zero => intro v2 v3 hm; exact absurd hm (Nat.not_lt_zero _)
  | succ n ih =>
    intro v2 v3 hm h2
    refine VF.ite (fun _ => VF.mk v3 trivial (fun _ h => h)) (fun c => ?_)
    have c1 := nle c
    have e1 := inc_i c
    obtain ⟨r, -, k⟩ := nx15 fa1 na1 v2 v4 v5 v6 v7 hn hs h2 c1 h6 h6' _ 0 v3 (Nat.lt_succ_self _) (by decide)
    obtain ⟨r2, -, k2⟩ := ih (v2 + 1) r (by omega) (by omega)
    exact ⟨r2, trivial, fun K hK => ⟨_, k _ (k2 K hK)⟩⟩
theorem nx (na1 : Nat) (fa1 : Nat → Int64) (a2 : Int32) (a3 : Int64) (a4 a5 : Int32) (hn : 3 * a2.toInt ≤ na1) (hs : a2.toInt ≤ 1000) (h6 : 0 ≤ a4.toInt) (h6' : a4.toInt ≤ 2) : VF (wp_X11_next na1 fa1 a2 a3 a4 a5) (fun _ => True) := by
  obtain ⟨r, -, k⟩ := nx6 fa1 na1 a2 a3 a4 a5 hn hs h6 h6' _ 0 0 (Nat.lt_succ_self _) (by decide)
  exact ⟨r, trivial, fun K hK => ⟨_, k K hK⟩⟩
theorem ow105 (fa1 : Nat → Int64) (na1 : Nat) (f34 : Nat → Int64) (n15 : Nat) (f35 : Nat → Int32) (n17 : Nat) (v41 : Int64) (v42 v43 v44 v45 : Int32) (v46 v47 : Int64) (v48 : Int32) (h44 : v44.toInt ≤ n15) :
    ∀ (n : Nat) (v40 : Int32), (v44.toInt - v40.toInt).toNat < n → 0 ≤ v40.toInt → v40.toInt ≤ v44.toInt → VF (fun K : Int32 → Prop => wpl_X11_oneWay_105 fa1 na1 f34 n15 f35 n17 v41 v42 v43 v44 v45 v46 v47 v48 K n v40) (fun u => 0 ≤ u.toInt ∧ u.toInt ≤ v44.toInt) := by
  intro n
  induction n with
  | zero => intro v40 hm; exact absurd hm (Nat.not_lt_zero _)
  | succ n ih =>
    intro v40 hm h0 h1
    refine VF.ite (fun _ => VF.mk v40 ⟨h0, h1⟩ (fun _ h => h)) (fun c => ?_)
    have c1 := nle c
    have e1 := inc_i c
    exact VF.side (vin (by omega)) (VF.ite (fun _ => VF.mk v40 ⟨h0, h1⟩ (fun _ h => h)) (fun _ => ih _ (by omega) (by omega) (by omega)))
/-- the rows that are made: all signs of the states ahead of at, and of at itself those ahead of sign -/
def OWp (f : Nat → Int32) (a s S : Int) : Prop := (∀ k i : Nat, i < 3 → ((k : Int) < a ∨ ((k : Int) = a ∧ (i : Int) < s)) → 0 ≤ (f (4 * k + i)).toInt ∧ (f (4 * k + i)).toInt < S) ∧ ∀ k : Nat, (k : Int) ≤ a → f (4 * k + 3) = 0 ∨ f (4 * k + 3) = 1
theorem OWp.step {f : Nat → Int32} {a s S S' : Int} {u : Int32} {p : Nat} (h : OWp f a s S) (ha : 0 ≤ a) (h0 : 0 ≤ s) (h3 : s < 3) (hp : (p : Int) = 4 * a + s) (hS : S ≤ S') (hu : 0 ≤ u.toInt) (hu' : u.toInt < S') : OWp (upd f p u) a (s + 1) S' := by
  refine ⟨fun k i hi hk => ?_, fun k hk => ?_⟩
  · by_cases e : 4 * k + i = p
    · rw [e, upd_at]
      exact ⟨hu, hu'⟩
    · rw [upd_ne e]
      have := h.1 k i hi (by omega)
      omega
  · rw [upd_ne (by omega)]
    exact h.2 k hk
theorem ow80 (fa1 : Nat → Int64) (na1 : Nat) (v28 v30 : Int32) (v31 v32 : Int64) (v33 : Int32) (hn : 3 * v30.toInt ≤ na1) (hs : v30.toInt ≤ 1000) (h28 : 0 ≤ v28.toInt) :
    ∀ (n : Nat) (v27 v29 : Int32) (f34 : Nat → Int64) (f35 : Nat → Int32), (3 - v27.toInt).toNat < n → 0 ≤ v27.toInt → v27.toInt ≤ 3 → v28.toInt < v29.toInt → v29.toInt ≤ 32 → OWp f35 v28.toInt v27.toInt v29.toInt →
      (∀ (K : Int32 → (Nat → Int64) → (Nat → Int32) → Prop) (Q : Option AI → Prop), Q none → wpl_X11_oneWay_80 fa1 na1 32 128 v28 v30 v31 v32 v33 K Q n v27 v29 f34 f35) ∨
      ∃ (u : Int32) (f : Nat → Int64) (g : Nat → Int32), v29.toInt ≤ u.toInt ∧ u.toInt ≤ 32 ∧ OWp g v28.toInt 3 u.toInt ∧ ∀ (K : Int32 → (Nat → Int64) → (Nat → Int32) → Prop) (Q : Option AI → Prop), K u f g → wpl_X11_oneWay_80 fa1 na1 32 128 v28 v30 v31 v32 v33 K Q n v27 v29 f34 f35 := by
  intro n
  induction n with
  | zero => intro v27 v29 f34 f35 hm; exact absurd hm (Nat.not_lt_zero _)
  | succ n ih =>
    intro v27 v29 f34 f35 hm h0 h3 hlt h32 hO
    by_cases c : (3 : Int32) ≤ v27
    · refine Or.inr ⟨v29, f34, f35, Int.le_refl _, h32, ?_, fun K Q hK => ⟨fun _ => hK, fun q => absurd c q⟩⟩
      have c1 := l_le.mp c
      rw [show (3 : Int32).toInt = 3 from rfl] at c1
      rwa [show v27.toInt = 3 by omega] at hO
    · have c1 := nle c
      have e1 := inc_i c
      rw [show (3 : Int32).toInt = 3 from rfl] at c1
      have hv : vp_in v28 32 := vin (by omega)
      obtain ⟨r, -, kr⟩ := nx na1 fa1 v30 (f34 v28.toNatClampNeg) v27 v33 hn hs (by omega) (by omega)
      obtain ⟨u, ⟨hu0, hu1⟩, ku⟩ := ow105 fa1 na1 f34 32 f35 128 r v27 v28 v29 v30 v31 v32 v33 (by omega) _ 0 (Nat.lt_succ_self _) (by decide) (by rw [ii_0]; omega)
      have kp : ((4 : Int32) * v28 + v27).toInt = 4 * v28.toInt + v27.toInt := ii_a (ii_m rfl rfl (by omega) (by omega)) rfl (by omega) (by omega)
      have kn : ((((4 : Int32) * v28 + v27).toNatClampNeg : Nat) : Int) = 4 * v28.toInt + v27.toInt := by rw [ii_cl, kp]; omega
      have hw : vp_in ((4 : Int32) * v28 + v27) 128 := vin (by omega)
      by_cases c32 : u = (32 : Int32)
      · refine Or.inl (fun K Q hQ => ⟨fun q => absurd q c, fun _ => ⟨hv, kr _ ⟨_, ku _ ⟨fun q => absurd c32 q, fun _ => hQ⟩⟩⟩⟩)
      · have hne : u.toInt ≠ 32 := fun e => c32 (l_eq.mpr e)
        by_cases cs : u = v29
        · have e29 : (v29 + (1 : Int32)).toInt = v29.toInt + 1 := ii_a rfl rfl (by omega) (by omega)
          have hv29 : vp_in v29 32 := vin (by rw [cs] at hne; omega)
          rcases ih (v27 + 1) (v29 + 1) (vp_updL f34 v29.toNatClampNeg r) (upd f35 ((4 : Int32) * v28 + v27).toNatClampNeg u) (by omega) (by omega) (by omega) (by omega) (by rw [cs] at hne; omega) (by rw [e1]; exact hO.step h28 h0 c1 kn (by omega) hu0 (by omega)) with g | ⟨u2, f2, g2, p1, p2, p3, p4⟩
          · exact Or.inl (fun K Q hQ => ⟨fun q => absurd q c, fun _ => ⟨hv, kr _ ⟨_, ku _ ⟨fun _ J hJ => ⟨fun q => absurd cs q, fun _ => ⟨hv29, hJ _ _ ⟨hw, g K Q hQ⟩⟩⟩, fun q => absurd q c32⟩⟩⟩⟩)
          · exact Or.inr ⟨u2, f2, g2, by omega, p2, p3, fun K Q hK => ⟨fun q => absurd q c, fun _ => ⟨hv, kr _ ⟨_, ku _ ⟨fun _ J hJ => ⟨fun q => absurd cs q, fun _ => ⟨hv29, hJ _ _ ⟨hw, p4 K Q hK⟩⟩⟩, fun q => absurd q c32⟩⟩⟩⟩⟩
        · have hne2 : u.toInt ≠ v29.toInt := fun e => cs (l_eq.mpr e)
          rcases ih (v27 + 1) v29 f34 (upd f35 ((4 : Int32) * v28 + v27).toNatClampNeg u) (by omega) (by omega) (by omega) (by omega) (by omega) (by rw [e1]; exact hO.step h28 h0 c1 kn (by omega) hu0 (by omega)) with g | ⟨u2, f2, g2, p1, p2, p3, p4⟩
          · exact Or.inl (fun K Q hQ => ⟨fun q => absurd q c, fun _ => ⟨hv, kr _ ⟨_, ku _ ⟨fun _ J hJ => ⟨fun _ => hJ _ _ ⟨hw, g K Q hQ⟩, fun q => absurd q cs⟩, fun q => absurd q c32⟩⟩⟩⟩)
          · exact Or.inr ⟨u2, f2, g2, by omega, p2, p3, fun K Q hK => ⟨fun q => absurd q c, fun _ => ⟨hv, kr _ ⟨_, ku _ ⟨fun _ J hJ => ⟨fun _ => hJ _ _ ⟨hw, p4 K Q hK⟩, fun q => absurd q cs⟩, fun q => absurd q c32⟩⟩⟩⟩⟩
theorem OWp.row {f : Nat → Int32} {a S : Int} {u : Int32} {p : Nat} (h : OWp f (a - 1) 3 S) (ha : 0 ≤ a) (hp : (p : Int) = 4 * a + 3) (hu : u = 0 ∨ u = 1) : OWp (upd f p u) a 0 S := by
  refine ⟨fun k i hi hk => ?_, fun k hk => ?_⟩
  · rw [upd_ne (by omega)]
    exact h.1 k i hi (by omega)
  · by_cases e : 4 * k + 3 = p
    · rw [e, upd_at]
      exact hu
    · rw [upd_ne e]
      exact h.2 k (by omega)
theorem ow34 (fa1 : Nat → Int64) (na1 : Nat) (v11 : Int32) (v12 v13 : Int64) (v14 : Int32) (hn : 3 * v11.toInt ≤ na1) (hs : v11.toInt ≤ 1000) :
    ∀ (n : Nat) (v9 v10 : Int32) (f18 : Nat → Int32) (f16 : Nat → Int64), (32 - v9.toInt).toNat < n → 0 ≤ v9.toInt → v9.toInt ≤ v10.toInt → 1 ≤ v10.toInt → v10.toInt ≤ 32 → OWp f18 (v9.toInt - 1) 3 v10.toInt →
      (∀ (K : Int32 → (Nat → Int32) → Prop) (Q : Option AI → Prop), Q none → wpl_X11_oneWay_34 fa1 na1 32 128 v11 v12 v13 v14 K Q n v9 v10 f18 f16) ∨
      ∃ (u : Int32) (g : Nat → Int32), 1 ≤ u.toInt ∧ u.toInt ≤ 32 ∧ OWp g (u.toInt - 1) 3 u.toInt ∧ ∀ (K : Int32 → (Nat → Int32) → Prop) (Q : Option AI → Prop), K u g → wpl_X11_oneWay_34 fa1 na1 32 128 v11 v12 v13 v14 K Q n v9 v10 f18 f16 := by
  intro n
  induction n with
  | zero => intro v9 v10 f18 f16 hm; exact absurd hm (Nat.not_lt_zero _)
  | succ n ih =>
    intro v9 v10 f18 f16 hm h0 hle h1 h32 hO
    by_cases c : v10 ≤ v9
    · refine Or.inr ⟨v10, f18, h1, h32, ?_, fun K Q hK => ⟨fun _ => hK, fun q => absurd c q⟩⟩
      have c1 := l_le.mp c
      rwa [show v9.toInt = v10.toInt by omega] at hO
    · have c1 := nle c
      have e1 := inc_i c
      have hv : vp_in v9 32 := vin (by omega)
      have kp : ((4 : Int32) * v9 + (3 : Int32)).toInt = 4 * v9.toInt + 3 := ii_a (ii_m rfl rfl (by omega) (by omega)) rfl (by omega) (by omega)
      have kn : ((((4 : Int32) * v9 + (3 : Int32)).toNatClampNeg : Nat) : Int) = 4 * v9.toInt + 3 := by rw [ii_cl, kp]; omega
      have hw : vp_in ((4 : Int32) * v9 + (3 : Int32)) 128 := vin (by omega)
      -- what stands in the row's end
      have key : ∀ (j22 : Int64), ∃ j24 : Int32, (j24 = 0 ∨ j24 = 1) ∧ ∀ G : Int32 → Prop, G j24 → ∀ J23 : Int32 → Prop, (∀ j, G j → J23 j) → (((lg_cmp ((f16 v9.toNatClampNeg) &&& j22) (0 : Int64)) = 0 → (J23 (0 : Int32))) ∧ (¬ (lg_cmp ((f16 v9.toNatClampNeg) &&& j22) (0 : Int64)) = 0 → (J23 (1 : Int32)))) := by
        intro j22
        by_cases z : (lg_cmp ((f16 v9.toNatClampNeg) &&& j22) (0 : Int64)) = 0
        · exact ⟨0, Or.inl rfl, fun G hG J hJ => ⟨fun _ => hJ _ hG, fun q => absurd z q⟩⟩
        · exact ⟨1, Or.inr rfl, fun G hG J hJ => ⟨fun q => absurd q z, fun _ => hJ _ hG⟩⟩
      have key2 : ∃ j22 : Int64, ∀ G : Int64 → Prop, G j22 → ∀ J21 : Int64 → Prop, (∀ j, G j → J21 j) → ((v14 = 0 → (J21 v13)) ∧ (¬ v14 = 0 → (J21 v12))) := by
        by_cases z : v14 = 0
        · exact ⟨v13, fun G hG J hJ => ⟨fun _ => hJ _ hG, fun q => absurd z q⟩⟩
        · exact ⟨v12, fun G hG J hJ => ⟨fun q => absurd q z, fun _ => hJ _ hG⟩⟩
      obtain ⟨j22, q22⟩ := key2
      obtain ⟨j24, hj, q24⟩ := key j22
      rcases ow80 fa1 na1 v9 v11 v12 v13 v14 hn hs h0 _ 0 v10 f16 (upd f18 ((4 : Int32) * v9 + (3 : Int32)).toNatClampNeg j24) (Nat.lt_succ_self _) (by decide) (by decide) c1 h32 (by rw [ii_0]; exact hO.row h0 kn hj) with g | ⟨u, f, g, p1, p2, p3, p4⟩
      · exact Or.inl (fun K Q hQ => ⟨fun q => absurd q c, fun _ => ⟨hv, q22 _ (q24 _ ⟨hw, _, g _ Q hQ⟩)⟩⟩)
      · rcases ih (v9 + 1) u g f (by omega) (by omega) (by omega) (by omega) p2 (by rw [e1, show v9.toInt + 1 - 1 = v9.toInt by omega]; exact p3) with g2 | ⟨u2, g2, s1, s2, s3, s4⟩
        · exact Or.inl (fun K Q hQ => ⟨fun q => absurd q c, fun _ => ⟨hv, q22 _ (q24 _ ⟨hw, _, p4 _ Q (g2 K Q hQ)⟩)⟩⟩)
        · exact Or.inr ⟨u2, g2, s1, s2, s3, fun K Q hK => ⟨fun q => absurd q c, fun _ => ⟨hv, q22 _ (q24 _ ⟨hw, _, p4 _ Q (s4 K Q hK)⟩)⟩⟩⟩
theorem pt6 (fa1 : Nat → Int32) (na1 n6 : Nat) (v5 : Int32) (h1 : v5.toInt ≤ na1) (h2 : v5.toInt ≤ n6) :
    ∀ (n : Nat) (v4 : Int32) (f7 : Nat → Int32), (v5.toInt - v4.toInt).toNat < n → 0 ≤ v4.toInt → (∀ j : Nat, (j : Int) < v4.toInt → f7 j = fa1 j) → ∃ g : Nat → Int32, (∀ j : Nat, (j : Int) < v5.toInt → g j = fa1 j) ∧ ∀ Q : Nat → (Nat → Int32) → Prop, Q n6 g → wpl_X11_part_6 fa1 na1 n6 v5 Q n v4 f7 := by
  intro n
  induction n with
  | zero => intro v4 f7 hm; exact absurd hm (Nat.not_lt_zero _)
  | succ n ih =>
    intro v4 f7 hm h0 hf
    by_cases c : v5 ≤ v4
    · have c1 := l_le.mp c
      exact ⟨f7, fun j hj => hf j (by omega), fun Q hQ => ⟨fun _ => hQ, fun q => absurd c q⟩⟩
    · have c1 := nle c
      have e1 := inc_i c
      obtain ⟨g, hg, k⟩ := ih (v4 + 1) (upd f7 v4.toNatClampNeg (fa1 v4.toNatClampNeg)) (by omega) (by omega) (fun j hj => by
        by_cases e : j = v4.toNatClampNeg
        · rw [e, upd_at]
        · rw [upd_ne e]
          rw [ii_cl] at e
          exact hf j (by omega))
      exact ⟨g, hg, fun Q hQ => ⟨fun q => absurd q c, fun _ => ⟨vin (by omega), vin (by omega), k Q hQ⟩⟩⟩
theorem pt (na1 : Nat) (fa1 : Nat → Int32) (a2 : Int32) (h0 : 0 ≤ a2.toInt) (h1 : a2.toInt ≤ na1) (h2 : a2.toInt ≤ 128) : ∃ g : Nat → Int32, (∀ j : Nat, (j : Int) < a2.toInt → g j = fa1 j) ∧ ∀ Q : Nat → (Nat → Int32) → Prop, Q a2.toNatClampNeg g → wp_X11_part na1 fa1 a2 Q := by
  obtain ⟨g, hg, k⟩ := pt6 fa1 na1 a2.toNatClampNeg a2 h1 (by rw [ii_cl]; omega) _ 0 (fun _ => 0) (Nat.lt_succ_self _) (by decide) (fun j hj => by rw [ii_0] at hj; omega)
  exact ⟨g, hg, fun Q hQ => ⟨⟨by rw [l_lt, ii_0]; omega, by rw [ii_cl]; omega⟩, _, k Q hQ⟩⟩
theorem OWp.ow {f g : Nat → Int32} {u : Int32} (h1 : 1 ≤ u.toInt) (h2 : u.toInt ≤ 32) (h : OWp f (u.toInt - 1) 3 u.toInt) (hg : ∀ j : Nat, (j : Int) < 4 * u.toInt → g j = f j) : OW (4 * u.toInt.toNat) g := by
  refine ⟨u.toInt.toNat, by omega, by omega, rfl, fun k hk => ⟨fun s hs => ?_, ?_⟩⟩
  · rw [hg _ (by omega)]
    have := h.1 k s hs (by omega)
    omega
  · rw [hg _ (by omega)]
    exact h.2 k (by omega)
theorem ow (na1 : Nat) (fa1 : Nat → Int64) (a2 : Int32) (a3 a4 : Int64) (a5 : Int32) (hn : 3 * a2.toInt ≤ na1) (hs : a2.toInt ≤ 1000) : VF (wp_X11_oneWay na1 fa1 a2 a3 a4 a5) OWo := by
  have key2 : ∃ j22 : Int64, ∀ G : Int64 → Prop, G j22 → ∀ J21 : Int64 → Prop, (∀ j, G j → J21 j) → ((a5 = 0 → (J21 a3)) ∧ (¬ a5 = 0 → (J21 a4))) := by
    by_cases z : a5 = 0
    · exact ⟨a3, fun G hG J hJ => ⟨fun _ => hJ _ hG, fun q => absurd z q⟩⟩
    · exact ⟨a4, fun G hG J hJ => ⟨fun q => absurd q z, fun _ => hJ _ hG⟩⟩
  obtain ⟨j6, q6⟩ := key2
  have d1 : ¬ (32 : Int32) < 0 ∧ (32 : Int32).toNatClampNeg ≤ 32 := by decide
  have d2 : ¬ (128 : Int32) < 0 ∧ (128 : Int32).toNatClampNeg ≤ 128 := by decide
  have d3 : vp_in (0 : Int32) ((32 : Int32).toNatClampNeg) := vin (by decide)
  rcases ow34 fa1 na1 a2 a3 a4 a5 hn hs _ 0 1 (fun _ => 0) (vp_updL (fun _ => 0) (0 : Int32).toNatClampNeg j6) (Nat.lt_succ_self _) (by decide) (by decide) (by decide) (by decide) ⟨fun k i hi hk => by rw [ii_0] at hk; omega, fun k hk => by rw [ii_0] at hk; omega⟩ with g | ⟨u, g, p1, p2, p3, p4⟩
  · exact ⟨none, fun n f e => (by cases e), fun K hK => ⟨d1, d2, q6 _ ⟨d3, _, g _ K hK⟩⟩⟩
  · have k4 : ((4 : Int32) * u).toInt = 4 * u.toInt := ii_m rfl rfl (by omega) (by omega)
    obtain ⟨g2, hg2, k2⟩ := pt ((128 : Int32).toNatClampNeg) g ((4 : Int32) * u) (by omega) (by rw [show (128 : Int32).toNatClampNeg = 128 from rfl]; omega) (by omega)
    refine ⟨some (((4 : Int32) * u).toNatClampNeg, g2), fun n f e => ?_, fun K hK => ⟨d1, d2, q6 _ ⟨d3, _, p4 _ K (k2 _ hK)⟩⟩⟩
    cases e
    have e4 : ((4 : Int32) * u).toNatClampNeg = 4 * u.toInt.toNat := by rw [ii_cl, k4]; omega
    rw [e4]
    exact OWp.ow p1 p2 p3 (fun j hj => hg2 j (by omega))
end RON
