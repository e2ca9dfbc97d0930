/-! part 88.rlib -/
section
section RLB
theorem l_le {a b : Int32} : a ≤ b ↔ a.toInt ≤ b.toInt := Int32.le_iff_toInt_le
theorem l_lt {a b : Int32} : a < b ↔ a.toInt < b.toInt := Int32.lt_iff_toInt_lt
theorem l_eq {a b : Int32} : a = b ↔ a.toInt = b.toInt := Int32.toInt_inj.symm
theorem ii_add {x y : Int32} (h1 : -2147483648 ≤ x.toInt + y.toInt) (h2 : x.toInt + y.toInt < 2147483648) : (x + y).toInt = x.toInt + y.toInt := by
  rw [Int32.toInt_add]
  exact Int.bmod_eq_of_le (by omega) (by omega)
theorem ii_sub {x y : Int32} (h1 : -2147483648 ≤ x.toInt - y.toInt) (h2 : x.toInt - y.toInt < 2147483648) : (x - y).toInt = x.toInt - y.toInt := by
  rw [Int32.toInt_sub]
  exact Int.bmod_eq_of_le (by omega) (by omega)
theorem ii_mul {x y : Int32} (h1 : -2147483648 ≤ x.toInt * y.toInt) (h2 : x.toInt * y.toInt < 2147483648) : (x * y).toInt = x.toInt * y.toInt := by
  rw [Int32.toInt_mul]
  exact Int.bmod_eq_of_le (by omega) (by omega)
theorem ii_div {x y : Int32} (h1 : 0 ≤ x.toInt) (h2 : 0 < y.toInt) : (x / y).toInt = x.toInt / y.toInt := by
  have h3 : 0 ≤ x.toInt / y.toInt := Int.ediv_nonneg h1 (Int.le_of_lt h2)
  have h4 : x.toInt / y.toInt ≤ x.toInt := Int.ediv_le_self _ h1
  have h5 := x.toInt_lt
  rw [Int32.toInt_div, Int.tdiv_eq_ediv_of_nonneg h1]
  exact Int.bmod_eq_of_le (by omega) (by omega)
theorem ii_a {x y : Int32} {a b : Int} (hx : x.toInt = a) (hy : y.toInt = b) (h1 : -2147483648 ≤ a + b) (h2 : a + b < 2147483648) : (x + y).toInt = a + b := by
  subst hx
  subst hy
  exact ii_add h1 h2
theorem ii_s {x y : Int32} {a b : Int} (hx : x.toInt = a) (hy : y.toInt = b) (h1 : -2147483648 ≤ a - b) (h2 : a - b < 2147483648) : (x - y).toInt = a - b := by
  subst hx
  subst hy
  exact ii_sub h1 h2
theorem ii_m {x y : Int32} {a b : Int} (hx : x.toInt = a) (hy : y.toInt = b) (h1 : -2147483648 ≤ a * b) (h2 : a * b < 2147483648) : (x * y).toInt = a * b := by
  subst hx
  subst hy
  exact ii_mul h1 h2
theorem ii_d {x y : Int32} {a b : Int} (hx : x.toInt = a) (hy : y.toInt = b) (h1 : 0 ≤ a) (h2 : 0 < b) : (x / y).toInt = a / b := by
  subst hx
  subst hy
  exact ii_div h1 h2
theorem ii_nI {n : Nat} (h : n < 2147483648) : (nI n).toInt = (n : Int) := nI_toInt h
theorem ii_cl {x : Int32} : x.toNatClampNeg = x.toInt.toNat := rfl
theorem ii_0 : (0 : Int32).toInt = 0 := rfl
theorem vin {x : Int32} {n : Nat} (h : 0 ≤ x.toInt ∧ x.toInt < n) : vp_in x n := vp_in_iff.mpr h
theorem jI {P : Int32 → Prop} {a : Int32} : (∀ J : Int32 → Prop, (∀ j, P j → J j) → J a) ↔ P a := ⟨fun h => h P (fun _ z => z), fun h J hJ => hJ a h⟩
/-- a predicate over what comes out, that comes out with a value -/
def VF {α : Type} (W : (α → Prop) → Prop) (P : α → Prop) : Prop := ∃ r, P r ∧ ∀ K : α → Prop, K r → W K
variable {α : Type} {A B : (α → Prop) → Prop} {P P1 P2 : α → Prop} {c : Prop}
theorem VF.mk (r : α) (h : P r) (hA : ∀ K : α → Prop, K r → A K) : VF A P := ⟨r, h, hA⟩
theorem VF.ite (h1 : c → VF A P) (h2 : ¬ c → VF B P) : VF (fun K => (c → A K) ∧ (¬ c → B K)) P := by
  by_cases z : c
  · obtain ⟨r, h, g⟩ := h1 z
    exact ⟨r, h, fun K hK => ⟨fun _ => g K hK, fun q => absurd z q⟩⟩
  · obtain ⟨r, h, g⟩ := h2 z
    exact ⟨r, h, fun K hK => ⟨fun q => absurd q z, fun _ => g K hK⟩⟩
theorem VF.itn (h1 : ¬ c → VF A P) (h2 : c → VF B P) : VF (fun K => (¬ c → A K) ∧ (c → B K)) P := by
  by_cases z : c
  · obtain ⟨r, h, g⟩ := h2 z
    exact ⟨r, h, fun K hK => ⟨fun q => absurd z q, fun _ => g K hK⟩⟩
  · obtain ⟨r, h, g⟩ := h1 z
    exact ⟨r, h, fun K hK => ⟨fun _ => g K hK, fun q => absurd q z⟩⟩
theorem VF.side (hc : c) (h : VF A P) : VF (fun K => c ∧ A K) P := by
  obtain ⟨r, h, g⟩ := h
  exact ⟨r, h, fun K hK => ⟨hc, g K hK⟩⟩
theorem VF.J {β : Type} {G : β → (α → Prop) → Prop} {a b : β} (h1 : c → VF (G a) P) (h2 : ¬ c → VF (G b) P) : VF (fun K => ∀ J : β → Prop, (∀ j, G j K → J j) → ((c → J a) ∧ (¬ c → J b))) P := by
  by_cases z : c
  · obtain ⟨r, h, g⟩ := h1 z
    exact ⟨r, h, fun K hK J hJ => ⟨fun _ => hJ _ (g K hK), fun q => absurd z q⟩⟩
  · obtain ⟨r, h, g⟩ := h2 z
    exact ⟨r, h, fun K hK J hJ => ⟨fun q => absurd q z, fun _ => hJ _ (g K hK)⟩⟩
theorem VF.Jn {β : Type} {G : β → (α → Prop) → Prop} {a b : β} (h1 : ¬ c → VF (G a) P) (h2 : c → VF (G b) P) : VF (fun K => ∀ J : β → Prop, (∀ j, G j K → J j) → ((¬ c → J a) ∧ (c → J b))) P := by
  by_cases z : c
  · obtain ⟨r, h, g⟩ := h2 z
    exact ⟨r, h, fun K hK J hJ => ⟨fun q => absurd z q, fun _ => hJ _ (g K hK)⟩⟩
  · obtain ⟨r, h, g⟩ := h1 z
    exact ⟨r, h, fun K hK J hJ => ⟨fun _ => hJ _ (g K hK), fun q => absurd q z⟩⟩
theorem VF.imp (h : VF A P1) (g : ∀ r, P1 r → P r) : VF A P := by
  obtain ⟨r, h, k⟩ := h
  exact ⟨r, g r h, k⟩
theorem VF.call {β : Type} {W : (β → Prop) → Prop} {PW : β → Prop} {G : β → (α → Prop) → Prop} (h : VF W PW) (g : ∀ r, PW r → VF (G r) P) : VF (fun K => W (fun r => G r K)) P := by
  obtain ⟨r, h, k⟩ := h
  obtain ⟨r2, h2, k2⟩ := g r h
  exact ⟨r2, h2, fun K hK => k _ (k2 K hK)⟩
/-- a loop with its fuel -/
theorem VF.loop {W : Nat → (α → Prop) → Prop} (n : Nat) (h : VF (W n) P) : VF (fun K => ∃ n, W n K) P := by
  obtain ⟨r, h, k⟩ := h
  exact ⟨r, h, fun K hK => ⟨n, k K hK⟩⟩
theorem VF.use (h : VF A P) {Q : α → Prop} (g : ∀ r, P r → Q r) : A Q := by
  obtain ⟨r, h, k⟩ := h
  exact k Q (g r h)
/-- a one-way machine by its rows -/
def OW (n : Nat) (f : Nat → Int32) : Prop := ∃ S : Nat, 1 ≤ S ∧ S ≤ 32 ∧ n = 4 * S ∧ ∀ k, k < S → (∀ s, s < 3 → 0 ≤ (f (4 * k + s)).toInt ∧ (f (4 * k + s)).toInt < S) ∧ (f (4 * k + 3) = 0 ∨ f (4 * k + 3) = 1)
def OWo (r : Option AI) : Prop := ∀ n f, r = some (n, f) → OW n f
theorem inc_i {x B : Int32} (h : ¬ B ≤ x) : (x + (1 : Int32)).toInt = x.toInt + 1 := inc_t h
theorem nle {B x : Int32} (h : ¬ B ≤ x) : x.toInt < B.toInt := by
  rw [l_le] at h
  omega
theorem upd_at {f : Nat → Int32} {k : Nat} {x : Int32} : upd f k x k = x := by simp [upd]
theorem upd_ne {f : Nat → Int32} {k j : Nat} {x : Int32} (h : j ≠ k) : upd f k x j = f j := by simp [upd, h]
end RLB
end
/-! part 89.rone -/
section
section RON
theorem nx15 (fa1 : Nat → Int64) (na1 : Nat) (v11 v13 : Int32) (v14 : Int64) (v15 v16 : Int32) (hn : 3 * v13.toInt ≤ na1) (hs : v13.toInt ≤ 1000) (h11 : 0 ≤ v11.toInt) (h11' : v11.toInt < v13.toInt) (h15 : 0 ≤ v15.toInt) (h15' : v15.toInt ≤ 2) :
    ∀ (n : Nat) (v10 : Int32) (v12 : Int64), (v13.toInt - v10.toInt).toNat < n → 0 ≤ v10.toInt → VF (fun K : Int64 → Prop => wpl_X11_next_15 fa1 na1 v11 v13 v14 v15 v16 K n v10 v12) (fun _ => True) := by
  intro n
  induction n with
  | zero => intro v10 v12 hm; exact absurd hm (Nat.not_lt_zero _)
  | succ n ih =>
    intro v10 v12 hm h10
    refine VF.ite (fun _ => VF.mk v12 trivial (fun _ h => h)) (fun c => ?_)
    have c1 := nle c
    have e1 := inc_i c
    have k1 : ((3 : Int32) * v10 + v15).toInt = 3 * v10.toInt + v15.toInt := ii_a (ii_m rfl rfl (by omega) (by omega)) rfl (by omega) (by omega)
    have k2 : ((3 : Int32) * v11 + v15).toInt = 3 * v11.toInt + v15.toInt := ii_a (ii_m rfl rfl (by omega) (by omega)) rfl (by omega) (by omega)
    refine VF.J (fun z => VF.side (vin (by omega)) ?_) (fun z => VF.side (vin (by omega)) ?_)
    · refine VF.J (fun _ => ?_) (fun q => absurd z q)
      refine VF.Jn (fun _ => ?_) (fun _ => ?_)
      · exact VF.ite (fun _ => ih _ _ (by omega) (by omega)) (fun q => absurd rfl q)
      · exact VF.ite (fun q => absurd q (by decide)) (fun _ => VF.itn (fun _ => ih _ _ (by omega) (by omega)) (fun _ => ih _ _ (by omega) (by omega)))
    · refine VF.J (fun q => absurd q z) (fun _ => ?_)
      refine VF.Jn (fun _ => ?_) (fun _ => ?_)
      · exact VF.ite (fun _ => ih _ _ (by omega) (by omega)) (fun q => absurd rfl q)
      · exact VF.ite (fun q => absurd q (by decide)) (fun _ => VF.itn (fun _ => ih _ _ (by omega) (by omega)) (fun _ => ih _ _ (by omega) (by omega)))
theorem nx6 (fa1 : Nat → Int64) (na1 : Nat) (v4 : Int32) (v5 : Int64) (v6 v7 : Int32) (hn : 3 * v4.toInt ≤ na1) (hs : v4.toInt ≤ 1000) (h6 : 0 ≤ v6.toInt) (h6' : v6.toInt ≤ 2) :
    ∀ (n : Nat) (v2 : Int32) (v3 : Int64), (v4.toInt - v2.toInt).toNat < n → 0 ≤ v2.toInt → VF (fun Q : Int64 → Prop => wpl_X11_next_6 fa1 na1 v4 v5 v6 v7 Q n v2 v3) (fun _ => True) := by
  intro n
  induction n with
  | zero => intro v2 v3 hm; exact absurd hm (Nat.not_lt_zero _)
  | succ n ih =>
    intro v2 v3 hm h2
    refine VF.ite (fun _ => VF.mk v3 trivial (fun _ h => h)) (fun c => ?_)
    have c1 := nle c
    have e1 := inc_i c
    obtain ⟨r, -, k⟩ := nx15 fa1 na1 v2 v4 v5 v6 v7 hn hs h2 c1 h6 h6' _ 0 v3 (Nat.lt_succ_self _) (by decide)
    obtain ⟨r2, -, k2⟩ := ih (v2 + 1) r (by omega) (by omega)
    exact ⟨r2, trivial, fun K hK => ⟨_, k _ (k2 K hK)⟩⟩
theorem nx (na1 : Nat) (fa1 : Nat → Int64) (a2 : Int32) (a3 : Int64) (a4 a5 : Int32) (hn : 3 * a2.toInt ≤ na1) (hs : a2.toInt ≤ 1000) (h6 : 0 ≤ a4.toInt) (h6' : a4.toInt ≤ 2) : VF (wp_X11_next na1 fa1 a2 a3 a4 a5) (fun _ => True) := by
  obtain ⟨r, -, k⟩ := nx6 fa1 na1 a2 a3 a4 a5 hn hs h6 h6' _ 0 0 (Nat.lt_succ_self _) (by decide)
  exact ⟨r, trivial, fun K hK => ⟨_, k K hK⟩⟩
theorem ow105 (fa1 : Nat → Int64) (na1 : Nat) (f34 : Nat → Int64) (n15 : Nat) (f35 : Nat → Int32) (n17 : Nat) (v41 : Int64) (v42 v43 v44 v45 : Int32) (v46 v47 : Int64) (v48 : Int32) (h44 : v44.toInt ≤ n15) :
    ∀ (n : Nat) (v40 : Int32), (v44.toInt - v40.toInt).toNat < n → 0 ≤ v40.toInt → v40.toInt ≤ v44.toInt → VF (fun K : Int32 → Prop => wpl_X11_oneWay_105 fa1 na1 f34 n15 f35 n17 v41 v42 v43 v44 v45 v46 v47 v48 K n v40) (fun u => 0 ≤ u.toInt ∧ u.toInt ≤ v44.toInt) := by
  intro n
  induction n with
  | zero => intro v40 hm; exact absurd hm (Nat.not_lt_zero _)
  | succ n ih =>
    intro v40 hm h0 h1
    refine VF.ite (fun _ => VF.mk v40 ⟨h0, h1⟩ (fun _ h => h)) (fun c => ?_)
    have c1 := nle c
    have e1 := inc_i c
    exact VF.side (vin (by omega)) (VF.ite (fun _ => VF.mk v40 ⟨h0, h1⟩ (fun _ h => h)) (fun _ => ih _ (by omega) (by omega) (by omega)))
/-- the rows that are made: all signs of the states ahead of at, and of at itself those ahead of sign -/
def OWp (f : Nat → Int32) (a s S : Int) : Prop := (∀ k i : Nat, i < 3 → ((k : Int) < a ∨ ((k : Int) = a ∧ (i : Int) < s)) → 0 ≤ (f (4 * k + i)).toInt ∧ (f (4 * k + i)).toInt < S) ∧ ∀ k : Nat, (k : Int) ≤ a → f (4 * k + 3) = 0 ∨ f (4 * k + 3) = 1
theorem OWp.step {f : Nat → Int32} {a s S S' : Int} {u : Int32} {p : Nat} (h : OWp f a s S) (ha : 0 ≤ a) (h0 : 0 ≤ s) (h3 : s < 3) (hp : (p : Int) = 4 * a + s) (hS : S ≤ S') (hu : 0 ≤ u.toInt) (hu' : u.toInt < S') : OWp (upd f p u) a (s + 1) S' := by
  refine ⟨fun k i hi hk => ?_, fun k hk => ?_⟩
  · by_cases e : 4 * k + i = p
    · rw [e, upd_at]
      exact ⟨hu, hu'⟩
    · rw [upd_ne e]
      have := h.1 k i hi (by omega)
      omega
  · rw [upd_ne (by omega)]
    exact h.2 k hk
theorem ow80 (fa1 : Nat → Int64) (na1 : Nat) (v28 v30 : Int32) (v31 v32 : Int64) (v33 : Int32) (hn : 3 * v30.toInt ≤ na1) (hs : v30.toInt ≤ 1000) (h28 : 0 ≤ v28.toInt) :
    ∀ (n : Nat) (v27 v29 : Int32) (f34 : Nat → Int64) (f35 : Nat → Int32), (3 - v27.toInt).toNat < n → 0 ≤ v27.toInt → v27.toInt ≤ 3 → v28.toInt < v29.toInt → v29.toInt ≤ 32 → OWp f35 v28.toInt v27.toInt v29.toInt →
      (∀ (K : Int32 → (Nat → Int64) → (Nat → Int32) → Prop) (Q : Option AI → Prop), Q none → wpl_X11_oneWay_80 fa1 na1 32 128 v28 v30 v31 v32 v33 K Q n v27 v29 f34 f35) ∨
      ∃ (u : Int32) (f : Nat → Int64) (g : Nat → Int32), v29.toInt ≤ u.toInt ∧ u.toInt ≤ 32 ∧ OWp g v28.toInt 3 u.toInt ∧ ∀ (K : Int32 → (Nat → Int64) → (Nat → Int32) → Prop) (Q : Option AI → Prop), K u f g → wpl_X11_oneWay_80 fa1 na1 32 128 v28 v30 v31 v32 v33 K Q n v27 v29 f34 f35 := by
  intro n
  induction n with
  | zero => intro v27 v29 f34 f35 hm; exact absurd hm (Nat.not_lt_zero _)
  | succ n ih =>
    intro v27 v29 f34 f35 hm h0 h3 hlt h32 hO
    by_cases c : (3 : Int32) ≤ v27
    · refine Or.inr ⟨v29, f34, f35, Int.le_refl _, h32, ?_, fun K Q hK => ⟨fun _ => hK, fun q => absurd c q⟩⟩
      have c1 := l_le.mp c
      rw [show (3 : Int32).toInt = 3 from rfl] at c1
      rwa [show v27.toInt = 3 by omega] at hO
    · have c1 := nle c
      have e1 := inc_i c
      rw [show (3 : Int32).toInt = 3 from rfl] at c1
      have hv : vp_in v28 32 := vin (by omega)
      obtain ⟨r, -, kr⟩ := nx na1 fa1 v30 (f34 v28.toNatClampNeg) v27 v33 hn hs (by omega) (by omega)
      obtain ⟨u, ⟨hu0, hu1⟩, ku⟩ := ow105 fa1 na1 f34 32 f35 128 r v27 v28 v29 v30 v31 v32 v33 (by omega) _ 0 (Nat.lt_succ_self _) (by decide) (by rw [ii_0]; omega)
      have kp : ((4 : Int32) * v28 + v27).toInt = 4 * v28.toInt + v27.toInt := ii_a (ii_m rfl rfl (by omega) (by omega)) rfl (by omega) (by omega)
      have kn : ((((4 : Int32) * v28 + v27).toNatClampNeg : Nat) : Int) = 4 * v28.toInt + v27.toInt := by rw [ii_cl, kp]; omega
      have hw : vp_in ((4 : Int32) * v28 + v27) 128 := vin (by omega)
      by_cases c32 : u = (32 : Int32)
      · refine Or.inl (fun K Q hQ => ⟨fun q => absurd q c, fun _ => ⟨hv, kr _ ⟨_, ku _ ⟨fun q => absurd c32 q, fun _ => hQ⟩⟩⟩⟩)
      · have hne : u.toInt ≠ 32 := fun e => c32 (l_eq.mpr e)
        by_cases cs : u = v29
        · have e29 : (v29 + (1 : Int32)).toInt = v29.toInt + 1 := ii_a rfl rfl (by omega) (by omega)
          have hv29 : vp_in v29 32 := vin (by rw [cs] at hne; omega)
          rcases ih (v27 + 1) (v29 + 1) (vp_updL f34 v29.toNatClampNeg r) (upd f35 ((4 : Int32) * v28 + v27).toNatClampNeg u) (by omega) (by omega) (by omega) (by omega) (by rw [cs] at hne; omega) (by rw [e1]; exact hO.step h28 h0 c1 kn (by omega) hu0 (by omega)) with g | ⟨u2, f2, g2, p1, p2, p3, p4⟩
          · exact Or.inl (fun K Q hQ => ⟨fun q => absurd q c, fun _ => ⟨hv, kr _ ⟨_, ku _ ⟨fun _ J hJ => ⟨fun q => absurd cs q, fun _ => ⟨hv29, hJ _ _ ⟨hw, g K Q hQ⟩⟩⟩, fun q => absurd q c32⟩⟩⟩⟩)
          · exact Or.inr ⟨u2, f2, g2, by omega, p2, p3, fun K Q hK => ⟨fun q => absurd q c, fun _ => ⟨hv, kr _ ⟨_, ku _ ⟨fun _ J hJ => ⟨fun q => absurd cs q, fun _ => ⟨hv29, hJ _ _ ⟨hw, p4 K Q hK⟩⟩⟩, fun q => absurd q c32⟩⟩⟩⟩⟩
        · have hne2 : u.toInt ≠ v29.toInt := fun e => cs (l_eq.mpr e)
          rcases ih (v27 + 1) v29 f34 (upd f35 ((4 : Int32) * v28 + v27).toNatClampNeg u) (by omega) (by omega) (by omega) (by omega) (by omega) (by rw [e1]; exact hO.step h28 h0 c1 kn (by omega) hu0 (by omega)) with g | ⟨u2, f2, g2, p1, p2, p3, p4⟩
          · exact Or.inl (fun K Q hQ => ⟨fun q => absurd q c, fun _ => ⟨hv, kr _ ⟨_, ku _ ⟨fun _ J hJ => ⟨fun _ => hJ _ _ ⟨hw, g K Q hQ⟩, fun q => absurd q cs⟩, fun q => absurd q c32⟩⟩⟩⟩)
          · exact Or.inr ⟨u2, f2, g2, by omega, p2, p3, fun K Q hK => ⟨fun q => absurd q c, fun _ => ⟨hv, kr _ ⟨_, ku _ ⟨fun _ J hJ => ⟨fun _ => hJ _ _ ⟨hw, p4 K Q hK⟩, fun q => absurd q cs⟩, fun q => absurd q c32⟩⟩⟩⟩⟩
theorem OWp.row {f : Nat → Int32} {a S : Int} {u : Int32} {p : Nat} (h : OWp f (a - 1) 3 S) (ha : 0 ≤ a) (hp : (p : Int) = 4 * a + 3) (hu : u = 0 ∨ u = 1) : OWp (upd f p u) a 0 S := by
  refine ⟨fun k i hi hk => ?_, fun k hk => ?_⟩
  · rw [upd_ne (by omega)]
    exact h.1 k i hi (by omega)
  · by_cases e : 4 * k + 3 = p
    · rw [e, upd_at]
      exact hu
    · rw [upd_ne e]
      exact h.2 k (by omega)
theorem ow34 (fa1 : Nat → Int64) (na1 : Nat) (v11 : Int32) (v12 v13 : Int64) (v14 : Int32) (hn : 3 * v11.toInt ≤ na1) (hs : v11.toInt ≤ 1000) :
    ∀ (n : Nat) (v9 v10 : Int32) (f18 : Nat → Int32) (f16 : Nat → Int64), (32 - v9.toInt).toNat < n → 0 ≤ v9.toInt → v9.toInt ≤ v10.toInt → 1 ≤ v10.toInt → v10.toInt ≤ 32 → OWp f18 (v9.toInt - 1) 3 v10.toInt →
      (∀ (K : Int32 → (Nat → Int32) → Prop) (Q : Option AI → Prop), Q none → wpl_X11_oneWay_34 fa1 na1 32 128 v11 v12 v13 v14 K Q n v9 v10 f18 f16) ∨
      ∃ (u : Int32) (g : Nat → Int32), 1 ≤ u.toInt ∧ u.toInt ≤ 32 ∧ OWp g (u.toInt - 1) 3 u.toInt ∧ ∀ (K : Int32 → (Nat → Int32) → Prop) (Q : Option AI → Prop), K u g → wpl_X11_oneWay_34 fa1 na1 32 128 v11 v12 v13 v14 K Q n v9 v10 f18 f16 := by
  intro n
  induction n with
  | zero => intro v9 v10 f18 f16 hm; exact absurd hm (Nat.not_lt_zero _)
  | succ n ih =>
    intro v9 v10 f18 f16 hm h0 hle h1 h32 hO
    by_cases c : v10 ≤ v9
    · refine Or.inr ⟨v10, f18, h1, h32, ?_, fun K Q hK => ⟨fun _ => hK, fun q => absurd c q⟩⟩
      have c1 := l_le.mp c
      rwa [show v9.toInt = v10.toInt by omega] at hO
    · have c1 := nle c
      have e1 := inc_i c
      have hv : vp_in v9 32 := vin (by omega)
      have kp : ((4 : Int32) * v9 + (3 : Int32)).toInt = 4 * v9.toInt + 3 := ii_a (ii_m rfl rfl (by omega) (by omega)) rfl (by omega) (by omega)
      have kn : ((((4 : Int32) * v9 + (3 : Int32)).toNatClampNeg : Nat) : Int) = 4 * v9.toInt + 3 := by rw [ii_cl, kp]; omega
      have hw : vp_in ((4 : Int32) * v9 + (3 : Int32)) 128 := vin (by omega)
      -- what stands in the row's end
      have key : ∀ (j22 : Int64), ∃ j24 : Int32, (j24 = 0 ∨ j24 = 1) ∧ ∀ G : Int32 → Prop, G j24 → ∀ J23 : Int32 → Prop, (∀ j, G j → J23 j) → (((lg_cmp ((f16 v9.toNatClampNeg) &&& j22) (0 : Int64)) = 0 → (J23 (0 : Int32))) ∧ (¬ (lg_cmp ((f16 v9.toNatClampNeg) &&& j22) (0 : Int64)) = 0 → (J23 (1 : Int32)))) := by
        intro j22
        by_cases z : (lg_cmp ((f16 v9.toNatClampNeg) &&& j22) (0 : Int64)) = 0
        · exact ⟨0, Or.inl rfl, fun G hG J hJ => ⟨fun _ => hJ _ hG, fun q => absurd z q⟩⟩
        · exact ⟨1, Or.inr rfl, fun G hG J hJ => ⟨fun q => absurd q z, fun _ => hJ _ hG⟩⟩
      have key2 : ∃ j22 : Int64, ∀ G : Int64 → Prop, G j22 → ∀ J21 : Int64 → Prop, (∀ j, G j → J21 j) → ((v14 = 0 → (J21 v13)) ∧ (¬ v14 = 0 → (J21 v12))) := by
        by_cases z : v14 = 0
        · exact ⟨v13, fun G hG J hJ => ⟨fun _ => hJ _ hG, fun q => absurd z q⟩⟩
        · exact ⟨v12, fun G hG J hJ => ⟨fun q => absurd q z, fun _ => hJ _ hG⟩⟩
      obtain ⟨j22, q22⟩ := key2
      obtain ⟨j24, hj, q24⟩ := key j22
      rcases ow80 fa1 na1 v9 v11 v12 v13 v14 hn hs h0 _ 0 v10 f16 (upd f18 ((4 : Int32) * v9 + (3 : Int32)).toNatClampNeg j24) (Nat.lt_succ_self _) (by decide) (by decide) c1 h32 (by rw [ii_0]; exact hO.row h0 kn hj) with g | ⟨u, f, g, p1, p2, p3, p4⟩
      · exact Or.inl (fun K Q hQ => ⟨fun q => absurd q c, fun _ => ⟨hv, q22 _ (q24 _ ⟨hw, _, g _ Q hQ⟩)⟩⟩)
      · rcases ih (v9 + 1) u g f (by omega) (by omega) (by omega) (by omega) p2 (by rw [e1, show v9.toInt + 1 - 1 = v9.toInt by omega]; exact p3) with g2 | ⟨u2, g2, s1, s2, s3, s4⟩
        · exact Or.inl (fun K Q hQ => ⟨fun q => absurd q c, fun _ => ⟨hv, q22 _ (q24 _ ⟨hw, _, p4 _ Q (g2 K Q hQ)⟩)⟩⟩)
        · exact Or.inr ⟨u2, g2, s1, s2, s3, fun K Q hK => ⟨fun q => absurd q c, fun _ => ⟨hv, q22 _ (q24 _ ⟨hw, _, p4 _ Q (s4 K Q hK)⟩)⟩⟩⟩
theorem pt6 (fa1 : Nat → Int32) (na1 n6 : Nat) (v5 : Int32) (h1 : v5.toInt ≤ na1) (h2 : v5.toInt ≤ n6) :
    ∀ (n : Nat) (v4 : Int32) (f7 : Nat → Int32), (v5.toInt - v4.toInt).toNat < n → 0 ≤ v4.toInt → (∀ j : Nat, (j : Int) < v4.toInt → f7 j = fa1 j) → ∃ g : Nat → Int32, (∀ j : Nat, (j : Int) < v5.toInt → g j = fa1 j) ∧ ∀ Q : Nat → (Nat → Int32) → Prop, Q n6 g → wpl_X11_part_6 fa1 na1 n6 v5 Q n v4 f7 := by
  intro n
  induction n with
  | zero => intro v4 f7 hm; exact absurd hm (Nat.not_lt_zero _)
  | succ n ih =>
    intro v4 f7 hm h0 hf
    by_cases c : v5 ≤ v4
    · have c1 := l_le.mp c
      exact ⟨f7, fun j hj => hf j (by omega), fun Q hQ => ⟨fun _ => hQ, fun q => absurd c q⟩⟩
    · have c1 := nle c
      have e1 := inc_i c
      obtain ⟨g, hg, k⟩ := ih (v4 + 1) (upd f7 v4.toNatClampNeg (fa1 v4.toNatClampNeg)) (by omega) (by omega) (fun j hj => by
        by_cases e : j = v4.toNatClampNeg
        · rw [e, upd_at]
        · rw [upd_ne e]
          rw [ii_cl] at e
          exact hf j (by omega))
      exact ⟨g, hg, fun Q hQ => ⟨fun q => absurd q c, fun _ => ⟨vin (by omega), vin (by omega), k Q hQ⟩⟩⟩
theorem pt (na1 : Nat) (fa1 : Nat → Int32) (a2 : Int32) (h0 : 0 ≤ a2.toInt) (h1 : a2.toInt ≤ na1) (h2 : a2.toInt ≤ 128) : ∃ g : Nat → Int32, (∀ j : Nat, (j : Int) < a2.toInt → g j = fa1 j) ∧ ∀ Q : Nat → (Nat → Int32) → Prop, Q a2.toNatClampNeg g → wp_X11_part na1 fa1 a2 Q := by
  obtain ⟨g, hg, k⟩ := pt6 fa1 na1 a2.toNatClampNeg a2 h1 (by rw [ii_cl]; omega) _ 0 (fun _ => 0) (Nat.lt_succ_self _) (by decide) (fun j hj => by rw [ii_0] at hj; omega)
  exact ⟨g, hg, fun Q hQ => ⟨⟨by rw [l_lt, ii_0]; omega, by rw [ii_cl]; omega⟩, _, k Q hQ⟩⟩
theorem OWp.ow {f g : Nat → Int32} {u : Int32} (h1 : 1 ≤ u.toInt) (h2 : u.toInt ≤ 32) (h : OWp f (u.toInt - 1) 3 u.toInt) (hg : ∀ j : Nat, (j : Int) < 4 * u.toInt → g j = f j) : OW (4 * u.toInt.toNat) g := by
  refine ⟨u.toInt.toNat, by omega, by omega, rfl, fun k hk => ⟨fun s hs => ?_, ?_⟩⟩
  · rw [hg _ (by omega)]
    have := h.1 k s hs (by omega)
    omega
  · rw [hg _ (by omega)]
    exact h.2 k (by omega)
theorem ow (na1 : Nat) (fa1 : Nat → Int64) (a2 : Int32) (a3 a4 : Int64) (a5 : Int32) (hn : 3 * a2.toInt ≤ na1) (hs : a2.toInt ≤ 1000) : VF (wp_X11_oneWay na1 fa1 a2 a3 a4 a5) OWo := by
  have key2 : ∃ j22 : Int64, ∀ G : Int64 → Prop, G j22 → ∀ J21 : Int64 → Prop, (∀ j, G j → J21 j) → ((a5 = 0 → (J21 a3)) ∧ (¬ a5 = 0 → (J21 a4))) := by
    by_cases z : a5 = 0
    · exact ⟨a3, fun G hG J hJ => ⟨fun _ => hJ _ hG, fun q => absurd z q⟩⟩
    · exact ⟨a4, fun G hG J hJ => ⟨fun q => absurd q z, fun _ => hJ _ hG⟩⟩
  obtain ⟨j6, q6⟩ := key2
  have d1 : ¬ (32 : Int32) < 0 ∧ (32 : Int32).toNatClampNeg ≤ 32 := by decide
  have d2 : ¬ (128 : Int32) < 0 ∧ (128 : Int32).toNatClampNeg ≤ 128 := by decide
  have d3 : vp_in (0 : Int32) ((32 : Int32).toNatClampNeg) := vin (by decide)
  rcases ow34 fa1 na1 a2 a3 a4 a5 hn hs _ 0 1 (fun _ => 0) (vp_updL (fun _ => 0) (0 : Int32).toNatClampNeg j6) (Nat.lt_succ_self _) (by decide) (by decide) (by decide) (by decide) ⟨fun k i hi hk => by rw [ii_0] at hk; omega, fun k hk => by rw [ii_0] at hk; omega⟩ with g | ⟨u, g, p1, p2, p3, p4⟩
  · exact ⟨none, fun n f e => (by cases e), fun K hK => ⟨d1, d2, q6 _ ⟨d3, _, g _ K hK⟩⟩⟩
  · have k4 : ((4 : Int32) * u).toInt = 4 * u.toInt := ii_m rfl rfl (by omega) (by omega)
    obtain ⟨g2, hg2, k2⟩ := pt ((128 : Int32).toNatClampNeg) g ((4 : Int32) * u) (by omega) (by rw [show (128 : Int32).toNatClampNeg = 128 from rfl]; omega) (by omega)
    refine ⟨some (((4 : Int32) * u).toNatClampNeg, g2), fun n f e => ?_, fun K hK => ⟨d1, d2, q6 _ ⟨d3, _, p4 _ K (k2 _ hK)⟩⟩⟩
    cases e
    have e4 : ((4 : Int32) * u).toNatClampNeg = 4 * u.toInt.toNat := by rw [ii_cl, k4]; omega
    rw [e4]
    exact OWp.ow p1 p2 p3 (fun j hj => hg2 j (by omega))
end RON
end
/-! part 90.rtwo -/
section
section RTW
def Mny (μ : TMem) : Prop := ∀ j : Nat, j < 4 → 1 ≤ (μ 1 j).toInt ∧ (μ 1 j).toInt ≤ 7
theorem Mny.at {μ : TMem} (h : Mny μ) {a : Int32} (h0 : 0 ≤ a.toInt) (h1 : a.toInt ≤ 3) : 1 ≤ (μ 1 a.toNatClampNeg).toInt ∧ (μ 1 a.toNatClampNeg).toInt ≤ 7 := h _ (by rw [ii_cl]; omega)
theorem aa7 (μ : TMem) (v5 : Int32) (h5 : 0 ≤ v5.toInt) (h5' : v5.toInt ≤ 3) :
    ∀ (n : Nat) (v4 : Int32) (f7 : Nat → Int64), (21 - v4.toInt).toNat < n → 0 ≤ v4.toInt → ∃ g : Nat → Int64, ∀ μ' : TMem, μ' 4 = μ 4 → ∀ Q : Nat → (Nat → Int64) → Prop, Q 21 g → wpl_X11_arrowsAll_7 μ' 21 v5 Q n v4 f7 := by
  intro n
  induction n with
  | zero => intro v4 f7 hm; exact absurd hm (Nat.not_lt_zero _)
  | succ n ih =>
    intro v4 f7 hm h0
    by_cases c : (21 : Int32) ≤ v4
    · exact ⟨f7, fun μ' _ Q hQ => ⟨fun _ => hQ, fun q => absurd c q⟩⟩
    · have c1 := nle c
      have e1 := inc_i c
      rw [show (21 : Int32).toInt = 21 from rfl] at c1
      have k : ((((v5 * (7 : Int32)) + (0 : Int32)) * (3 : Int32) + (0 : Int32)) + v4).toInt = (((v5.toInt * 7) + 0) * 3 + 0) + v4.toInt := ii_a (ii_a (ii_m (ii_a (ii_m rfl rfl (by omega) (by omega)) rfl (by omega) (by omega)) rfl (by omega) (by omega)) rfl (by omega) (by omega)) rfl (by omega) (by omega)
      obtain ⟨g, kg⟩ := ih (v4 + 1) (vp_updL f7 v4.toNatClampNeg ((μ 4 ((((v5 * (7 : Int32)) + (0 : Int32)) * (3 : Int32) + (0 : Int32)) + v4).toNatClampNeg).toInt64)) (by omega) (by omega)
      refine ⟨g, fun μ' hμ Q hQ => ⟨fun q => absurd q c, fun _ => ?_⟩⟩
      show vp_in _ 84 ∧ (vp_in v4 21 ∧ _)
      refine ⟨vin (by omega), vin (by omega), ?_⟩
      rw [hμ]
      exact kg μ' hμ Q hQ
theorem aa (μ : TMem) (a1 : Int32) (h5 : 0 ≤ a1.toInt) (h5' : a1.toInt ≤ 3) : ∃ g : Nat → Int64, ∀ μ' : TMem, μ' 4 = μ 4 → ∀ Q : Nat → (Nat → Int64) → Prop, Q 21 g → wp_X11_arrowsAll μ' a1 Q := by
  obtain ⟨g, k⟩ := aa7 μ a1 h5 h5' _ 0 (fun _ => 0) (Nat.lt_succ_self _) (by decide)
  exact ⟨g, fun μ' hμ Q hQ => ⟨by decide, _, k μ' hμ Q hQ⟩⟩
theorem owm (μ : TMem) (a1 : Int32) (hI : Mny μ) (h5 : 0 ≤ a1.toInt) (h5' : a1.toInt ≤ 3) : ∃ r : Option AI, OWo r ∧ ∀ μ' : TMem, (∀ k : Nat, 1 ≤ k → μ' k = μ k) → ∀ Q : Option AI → Prop, Q r → wp_X11_oneWay_ μ' a1 Q := by
  obtain ⟨g, kg⟩ := aa μ a1 h5 h5'
  have hm := hI.at h5 h5'
  obtain ⟨r, hr, kr⟩ := ow 21 g (μ 1 a1.toNatClampNeg) ((μ 2 a1.toNatClampNeg).toInt64) ((μ 3 a1.toNatClampNeg).toInt64) (0 : Int32) (by omega) (by omega)
  refine ⟨r, hr, fun μ' hμ Q hQ => kg μ' (hμ 4 (by decide)) _ ?_⟩
  show vp_in a1 4 ∧ (vp_in a1 4 ∧ (vp_in a1 4 ∧ _))
  refine ⟨vin (by omega), vin (by omega), vin (by omega), ?_⟩
  rw [hμ 1 (by decide), hμ 2 (by decide), hμ 3 (by decide)]
  refine kr _ ⟨fun e => ?_, fun n f e => ?_⟩
  · rw [e] at hQ
    exact hQ
  · rw [e] at hQ
    exact hQ
/-- a row's entry -/
theorem OW.get {n : Nat} {f : Nat → Int32} (h : OW n f) : ∃ S : Nat, 1 ≤ S ∧ S ≤ 32 ∧ n = 4 * S ∧ (∀ k s : Nat, k < S → s < 3 → 0 ≤ (f (4 * k + s)).toInt ∧ (f (4 * k + s)).toInt < S) ∧ ∀ k, k < S → (f (4 * k + 3) = 0 ∨ f (4 * k + 3) = 1) := by
  obtain ⟨S, h1, h2, h3, h4⟩ := h
  exact ⟨S, h1, h2, h3, fun k s hk hs => (h4 k hk).1 s hs, fun k hk => (h4 k hk).2⟩
theorem fourk {x y : Int32} {S : Nat} (hx : 0 ≤ x.toInt) (hx' : x.toInt < S) (hS : S ≤ 32) (hy : 0 ≤ y.toInt) (hy' : y.toInt < 4) : ((4 : Int32) * x + y).toInt = 4 * x.toInt + y.toInt ∧ ((4 : Int32) * x + y).toNatClampNeg = 4 * x.toInt.toNat + y.toInt.toNat ∧ vp_in ((4 : Int32) * x + y) (4 * S) := by
  have k : ((4 : Int32) * x + y).toInt = 4 * x.toInt + y.toInt := ii_a (ii_m rfl rfl (by omega) (by omega)) rfl (by omega) (by omega)
  exact ⟨k, by rw [ii_cl, k]; omega, vin (by omega)⟩
theorem il19 (fa1 : Nat → Int32) (S : Nat) (fa2 : Nat → Int32) (v8 v9 : Int32) (hS : S ≤ 32) (hf : ∀ k s : Nat, k < S → s < 3 → 0 ≤ (fa1 (4 * k + s)).toInt ∧ (fa1 (4 * k + s)).toInt < S) (h8 : 0 ≤ v8.toInt) (h8' : v8.toInt < S) (h9 : 0 ≤ v9.toInt) (h9' : v9.toInt < S) :
    ∀ (n : Nat) (v6 v7 : Int32), (3 - v6.toInt).toNat < n → 0 ≤ v6.toInt → isB v7 → VF (fun Q : Int32 → Prop => wpl_X11_isLike_19 fa1 (4 * S) fa2 S v8 v9 Q n v6 v7) (fun r => isB r ∧ (v8 = v9 → v7 = 1 → r = 1)) := by
  intro n
  induction n with
  | zero => intro v6 v7 hm; exact absurd hm (Nat.not_lt_zero _)
  | succ n ih =>
    intro v6 v7 hm h0 hb
    refine VF.ite (fun _ => VF.mk v7 ⟨hb, fun _ h => h⟩ (fun _ h => ⟨hb, h⟩)) (fun c => ?_)
    have c1 := nle c
    have e1 := inc_i c
    rw [show (3 : Int32).toInt = 3 from rfl] at c1
    obtain ⟨-, a2, a3⟩ := fourk h8 h8' hS h0 (by omega)
    obtain ⟨-, b2, b3⟩ := fourk h9 h9' hS h0 (by omega)
    have x1 := hf v8.toInt.toNat v6.toInt.toNat (by omega) (by omega)
    have x2 := hf v9.toInt.toNat v6.toInt.toNat (by omega) (by omega)
    rw [← a2] at x1
    rw [← b2] at x2
    refine VF.side a3 (VF.side (vin x1) (VF.side b3 (VF.side (vin x2) (VF.itn (fun z => ?_) (fun _ => ?_)))))
    · refine (ih (v6 + 1) (v7 &&& 0) (by omega) (by omega) (by rcases hb with rfl | rfl <;> exact Or.inl rfl)).imp (fun r hr => ⟨hr.1, fun e => ?_⟩)
      subst e
      exact absurd rfl z
    · exact (ih (v6 + 1) (v7 &&& 1) (by omega) (by omega) (by rcases hb with rfl | rfl; exact Or.inl rfl; exact Or.inr rfl)).imp (fun r hr => ⟨hr.1, fun e e7 => hr.2 e (by rw [e7]; rfl)⟩)
theorem il (S : Nat) (fa1 fa2 : Nat → Int32) (a3 a4 : Int32) (hS : S ≤ 32) (hf : ∀ k s : Nat, k < S → s < 3 → 0 ≤ (fa1 (4 * k + s)).toInt ∧ (fa1 (4 * k + s)).toInt < S) (h8 : 0 ≤ a3.toInt) (h8' : a3.toInt < S) (h9 : 0 ≤ a4.toInt) (h9' : a4.toInt < S) : VF (wp_X11_isLike (4 * S) fa1 S fa2 a3 a4) (fun r => isB r ∧ (a3 = a4 → r = 1)) := by
  refine VF.side (vin (by omega)) (VF.side (vin (by omega)) (VF.Jn (fun z => ?_) (fun z => ?_)))
  · refine (VF.loop _ (il19 fa1 S fa2 a3 a4 hS hf h8 h8' h9 h9' _ 0 0 (Nat.lt_succ_self _) (by decide) (Or.inl rfl))).imp (fun r hr => ⟨hr.1, fun e => ?_⟩)
    subst e
    exact absurd rfl z
  · exact (VF.loop _ (il19 fa1 S fa2 a3 a4 hS hf h8 h8' h9 h9' _ 0 1 (Nat.lt_succ_self _) (by decide) (Or.inr rfl))).imp (fun r hr => ⟨hr.1, fun e => hr.2 e rfl⟩)
theorem al11 (fa1 : Nat → Int32) (S : Nat) (v5 : Int32) (hS : S ≤ 32) (h5 : v5.toInt = S) :
    ∀ (n : Nat) (v4 : Int32) (f7 : Nat → Int32), (v5.toInt - v4.toInt).toNat < n → 0 ≤ v4.toInt → VF (fun K : (Nat → Int32) → Prop => wpl_X11_alike_11 fa1 (4 * S) S v5 K n v4 f7) (fun _ => True) := by
  intro n
  induction n with
  | zero => intro v4 f7 hm; exact absurd hm (Nat.not_lt_zero _)
  | succ n ih =>
    intro v4 f7 hm h0
    refine VF.ite (fun _ => VF.mk f7 trivial (fun _ h => h)) (fun c => ?_)
    have c1 := nle c
    have e1 := inc_i c
    obtain ⟨-, -, a3⟩ := fourk (y := 3) h0 (S := S) (by omega) hS (by decide) (by decide)
    exact VF.side a3 (VF.side (vin (by omega)) (ih _ _ (by omega) (by omega)))
theorem al56 (fa1 : Nat → Int32) (S : Nat) (f17 f27 : Nat → Int32) (n26 : Nat) (v31 v32 v33 : Int32) (hS : S ≤ 32) (hf : ∀ k s : Nat, k < S → s < 3 → 0 ≤ (fa1 (4 * k + s)).toInt ∧ (fa1 (4 * k + s)).toInt < S) (h31 : 0 ≤ v31.toInt) (h31' : v31.toInt < S) :
    ∀ (n : Nat) (v30 : Int32), (v31.toInt - v30.toInt).toNat < n → 0 ≤ v30.toInt → v30.toInt ≤ v31.toInt → VF (fun K : Int32 → Prop => wpl_X11_alike_56 fa1 (4 * S) f17 S f27 n26 v31 v32 v33 K n v30) (fun _ => True) := by
  intro n
  induction n with
  | zero => intro v30 hm; exact absurd hm (Nat.not_lt_zero _)
  | succ n ih =>
    intro v30 hm h0 h1
    obtain ⟨r, ⟨-, hr⟩, k⟩ := il S fa1 f17 v30 v31 hS hf h0 (by omega) h31 h31'
    by_cases z : r = 0
    · have hne : v30 ≠ v31 := fun e => by have := hr e; rw [z] at this; cases this
      have hne' : v30.toInt ≠ v31.toInt := fun e => hne (l_eq.mpr e)
      have e1 : (v30 + (1 : Int32)).toInt = v30.toInt + 1 := ii_a rfl rfl (by omega) (by omega)
      obtain ⟨u, -, ku⟩ := ih (v30 + 1) (by omega) (by omega) (by omega)
      exact ⟨u, trivial, fun K hK => k _ ⟨fun q => absurd z q, fun _ => ku K hK⟩⟩
    · exact ⟨v30, trivial, fun K hK => k _ ⟨fun _ => hK, fun q => absurd q z⟩⟩
theorem al47 (fa1 : Nat → Int32) (S : Nat) (f17 : Nat → Int32) (v24 v25 : Int32) (hS : S ≤ 32) (h25 : v25.toInt = S) (hf : ∀ k s : Nat, k < S → s < 3 → 0 ≤ (fa1 (4 * k + s)).toInt ∧ (fa1 (4 * k + s)).toInt < S) :
    ∀ (n : Nat) (v23 : Int32) (f27 : Nat → Int32), (v25.toInt - v23.toInt).toNat < n → 0 ≤ v23.toInt → VF (fun K : (Nat → Int32) → Prop => wpl_X11_alike_47 fa1 (4 * S) f17 S S v24 v25 K n v23 f27) (fun _ => True) := by
  intro n
  induction n with
  | zero => intro v23 f27 hm; exact absurd hm (Nat.not_lt_zero _)
  | succ n ih =>
    intro v23 f27 hm h0
    refine VF.ite (fun _ => VF.mk f27 trivial (fun _ h => h)) (fun c => ?_)
    have c1 := nle c
    have e1 := inc_i c
    obtain ⟨u, -, ku⟩ := al56 fa1 S f17 f27 S v23 v24 v25 hS hf h0 (by omega) _ 0 (Nat.lt_succ_self _) (by decide) (by rw [ii_0]; omega)
    obtain ⟨g, -, kg⟩ := ih (v23 + 1) (upd f27 v23.toNatClampNeg u) (by omega) (by omega)
    exact ⟨g, trivial, fun K hK => ⟨_, ku _ ⟨vin (by omega), kg K hK⟩⟩⟩
theorem al34 (fa1 : Nat → Int32) (S : Nat) (v18 : Int32) (hS : S ≤ 32) (h18 : v18.toInt = S) (hf : ∀ k s : Nat, k < S → s < 3 → 0 ≤ (fa1 (4 * k + s)).toInt ∧ (fa1 (4 * k + s)).toInt < S) :
    ∀ (n : Nat) (v14 : Int32) (f17 : Nat → Int32), (v18.toInt - v14.toInt).toNat < n → 0 ≤ v14.toInt → ∃ g : Nat → Int32, ∀ Q : Nat → (Nat → Int32) → Prop, Q S g → wpl_X11_alike_34 fa1 (4 * S) v18 Q n v14 S f17 := by
  intro n
  induction n with
  | zero => intro v14 f17 hm; exact absurd hm (Nat.not_lt_zero _)
  | succ n ih =>
    intro v14 f17 hm h0
    by_cases c : v18 ≤ v14
    · exact ⟨f17, fun Q hQ => ⟨fun _ => hQ, fun q => absurd c q⟩⟩
    · have c1 := nle c
      have e1 := inc_i c
      have e18 : v18.toNatClampNeg = S := by rw [ii_cl, h18]; omega
      obtain ⟨g, -, kg⟩ := al47 fa1 S f17 v14 v18 hS h18 hf _ 0 (fun _ => 0) (Nat.lt_succ_self _) (by decide)
      obtain ⟨g2, k2⟩ := ih (v14 + 1) g (by omega) (by omega)
      refine ⟨g2, fun Q hQ => ⟨fun q => absurd q c, fun _ => ⟨⟨by rw [l_lt, ii_0]; omega, by omega⟩, ?_⟩⟩⟩
      rw [e18]
      exact ⟨_, kg _ (k2 Q hQ)⟩
theorem quart {S : Nat} (hS : S ≤ 32) : ((nI (4 * S)) / (4 : Int32)).toInt = S ∧ ((nI (4 * S)) / (4 : Int32)).toNatClampNeg = S ∧ (nI (4 * S)).toInt = 4 * S ∧ (nI (4 * S)).toNatClampNeg = 4 * S := by
  have h1 : (nI (4 * S)).toInt = ((4 * S : Nat) : Int) := ii_nI (by omega)
  have h2 : ((nI (4 * S)) / (4 : Int32)).toInt = ((4 * S : Nat) : Int) / 4 := ii_d h1 rfl (by omega) (by omega)
  refine ⟨by omega, by rw [ii_cl]; omega, by omega, by rw [ii_cl]; omega⟩
theorem al (S : Nat) (fa1 : Nat → Int32) (hS : S ≤ 32) (hf : ∀ k s : Nat, k < S → s < 3 → 0 ≤ (fa1 (4 * k + s)).toInt ∧ (fa1 (4 * k + s)).toInt < S) : ∃ g : Nat → Int32, ∀ Q : Nat → (Nat → Int32) → Prop, Q S g → wp_X11_alike (4 * S) fa1 Q := by
  obtain ⟨q1, q2, q3, q4⟩ := quart hS
  obtain ⟨g, -, kg⟩ := al11 fa1 S ((nI (4 * S)) / (4 : Int32)) hS q1 _ 0 (fun _ => 0) (Nat.lt_succ_self _) (by decide)
  obtain ⟨g2, k2⟩ := al34 fa1 S ((nI (4 * S)) / (4 : Int32)) hS q1 hf (S + 1) 0 g (by rw [ii_0]; omega) (by decide)
  refine ⟨g2, fun Q hQ => ⟨⟨by rw [l_lt, ii_0]; omega, by omega⟩, ?_⟩⟩
  rw [q2]
  exact ⟨_, kg _ ⟨S + 1, by omega, k2 Q hQ⟩⟩
end RTW
end
/-! part 91.rthree -/
section
section RTH
theorem pig : ∀ (S m : Nat) (g : Nat → Nat), (∀ i, i < m → g i < S) → (∀ i j, i < j → j < m → g i ≠ g j) → m ≤ S := by
  intro S
  induction S with
  | zero =>
    intro m g h1 h2
    rcases m with _ | m
    · exact Nat.le_refl 0
    · exact absurd (h1 0 (by omega)) (Nat.not_lt_zero _)
  | succ S ih =>
    intro m g h1 h2
    by_cases h : ∃ i, i < m ∧ g i = S
    · obtain ⟨i0, hi0, e0⟩ := h
      have hn : ∀ k, k < m → k ≠ i0 → g k < S := fun k hk hne => by
        have a1 := h1 k hk
        have a2 : g k ≠ S := fun e => by
          rcases Nat.lt_or_gt_of_ne hne with q | q
          · exact h2 k i0 q hi0 (by rw [e, e0])
          · exact h2 i0 k q hk (by rw [e, e0])
        omega
      have := ih (m - 1) (fun j => if j < i0 then g j else g (j + 1)) (fun i hi => by
        by_cases q : i < i0
        · simp only [q, if_true]
          exact hn i (by omega) (by omega)
        · simp only [q, if_false]
          exact hn (i + 1) (by omega) (by omega)) (fun i j hij hj => by
        by_cases q : j < i0
        · have q2 : i < i0 := by omega
          simp only [q, q2, if_true]
          exact h2 i j hij (by omega)
        · by_cases q2 : i < i0
          · simp only [q, q2, if_true, if_false]
            exact h2 i (j + 1) (by omega) (by omega)
          · simp only [q, q2, if_false]
            exact h2 (i + 1) (j + 1) (by omega) (by omega))
      omega
    · have := ih m g (fun i hi => by
        have a1 := h1 i hi
        have a2 : g i ≠ S := fun e => h ⟨i, hi, e⟩
        omega) h2
      omega
/-- what waits: apart, and states -/
def WD (f : Nat → Int32) (z S : Nat) : Prop := (∀ i, i < z → 0 ≤ (f i).toInt ∧ (f i).toInt < S) ∧ ∀ i j, i < j → j < z → f i ≠ f j
theorem WD.le {f : Nat → Int32} {z S : Nat} (h : WD f z S) : z ≤ S := pig S z (fun i => (f i).toInt.toNat) (fun i hi => by have := h.1 i hi; omega) (fun i j hij hj e => by
  have a1 := h.1 i (by omega)
  have a2 := h.1 j hj
  exact h.2 i j hij hj (l_eq.mpr (by omega)))
theorem WD.push {f : Nat → Int32} {z S : Nat} {x : Int32} (h : WD f z S) (h0 : 0 ≤ x.toInt) (h1 : x.toInt < S) (hn : ∀ t, t < z → f t ≠ x) : WD (upd f z x) (z + 1) S := by
  refine ⟨fun i hi => ?_, fun i j hij hj => ?_⟩
  · by_cases e : i = z
    · rw [e, upd_at]
      exact ⟨h0, h1⟩
    · rw [upd_ne e]
      exact h.1 i (by omega)
  · rw [upd_ne (show i ≠ z by omega)]
    by_cases e : j = z
    · rw [e, upd_at]
      exact hn i (by omega)
    · rw [upd_ne e]
      exact h.2 i j hij (by omega)
theorem le77 (fa1 : Nat → Int32) (na1 : Nat) (f3 : Nat → Int32) (S : Nat) (f24 f23 : Nat → Int32) (n11 : Nat) (v30 v31 v32 v33 : Int32) (hS : S ≤ 32) (h30 : 0 ≤ v30.toInt) (h30' : v30.toInt < S) (hW : WD f24 v33.toInt.toNat S) :
    ∀ (n : Nat) (v29 : Int32), (v33.toInt - v29.toInt).toNat < n → 0 ≤ v29.toInt → v29.toInt ≤ v33.toInt → (∀ t : Nat, (t : Int) < v29.toInt → f24 t ≠ v30) → VF (fun K : Int32 → Prop => wpl_X11_least_77 fa1 na1 f3 S f24 S f23 n11 v30 v31 v32 v33 K n v29) (fun u => 0 ≤ u.toInt ∧ u.toInt ≤ v33.toInt ∧ (u = v33 → ∀ t : Nat, (t : Int) < v33.toInt → f24 t ≠ v30)) := by
  intro n
  induction n with
  | zero => intro v29 hm; exact absurd hm (Nat.not_lt_zero _)
  | succ n ih =>
    intro v29 hm h0 h1 hd
    refine VF.ite (fun c => VF.mk v29 ⟨h0, h1, fun e t ht => hd t (by rw [e]; exact ht)⟩ (fun _ h => h)) (fun c => ?_)
    have c1 := nle c
    have e1 := inc_i c
    have w1 := hW.1 v29.toNatClampNeg (by rw [ii_cl]; omega)
    have hle := hW.le
    refine VF.side (vin (by omega)) (VF.side (vin w1) (VF.side (vin ⟨h30, h30'⟩) (VF.ite (fun _ => VF.mk v29 ⟨h0, h1, fun e => by rw [e] at c1; omega⟩ (fun _ h => h)) (fun q => ?_))))
    refine ih (v29 + 1) (by omega) (by omega) (by omega) (fun t ht => ?_)
    by_cases e : (t : Int) < v29.toInt
    · exact hd t e
    · have e2 : t = v29.toNatClampNeg := by rw [ii_cl]; omega
      rw [e2]
      intro e3
      rw [e3] at q
      exact q rfl
theorem le55 (fa1 : Nat → Int32) (S : Nat) (f3 : Nat → Int32) (v21 : Int32) (hS : S ≤ 32) (hf : ∀ k s : Nat, k < S → s < 3 → 0 ≤ (fa1 (4 * k + s)).toInt ∧ (fa1 (4 * k + s)).toInt < S) (h21 : 0 ≤ v21.toInt) :
    ∀ (n : Nat) (v20 v22 : Int32) (f24 f23 : Nat → Int32), (3 - v20.toInt).toNat < n → 0 ≤ v20.toInt → v20.toInt ≤ 3 → v21.toInt < v22.toInt → WD f24 v22.toInt.toNat S → OWp f23 v21.toInt v20.toInt v22.toInt →
      ∃ (u : Int32) (w g : Nat → Int32), v22.toInt ≤ u.toInt ∧ WD w u.toInt.toNat S ∧ OWp g v21.toInt 3 u.toInt ∧ ∀ K : Int32 → (Nat → Int32) → (Nat → Int32) → Prop, K u w g → wpl_X11_least_55 fa1 (4 * S) f3 S S (4 * S) v21 K n v20 v22 f24 f23 := by
  intro n
  induction n with
  | zero => intro v20 v22 f24 f23 hm; exact absurd hm (Nat.not_lt_zero _)
  | succ n ih =>
    intro v20 v22 f24 f23 hm h0 h3 hlt hW hO
    have hle := hW.le
    by_cases c : (3 : Int32) ≤ v20
    · have c1 := l_le.mp c
      rw [show (3 : Int32).toInt = 3 from rfl] at c1
      refine ⟨v22, f24, f23, Int.le_refl _, hW, ?_, fun K hK => ⟨fun _ => hK, fun q => absurd c q⟩⟩
      rwa [show v20.toInt = 3 by omega] at hO
    · have c1 := nle c
      have e1 := inc_i c
      rw [show (3 : Int32).toInt = 3 from rfl] at c1
      have w1 := hW.1 v21.toNatClampNeg (by rw [ii_cl]; omega)
      have hv : vp_in v21 S := vin (by omega)
      obtain ⟨-, x2, x3⟩ := fourk w1.1 w1.2 hS h0 (by omega : v20.toInt < 4)
      have x4 := hf (f24 v21.toNatClampNeg).toInt.toNat v20.toInt.toNat (by omega) (by omega)
      rw [← x2] at x4
      obtain ⟨u, ⟨u0, u1, u2⟩, ku⟩ := le77 fa1 (4 * S) f3 S f24 f23 (4 * S) (fa1 (((4 : Int32) * (f24 v21.toNatClampNeg)) + v20).toNatClampNeg) v20 v21 v22 hS x4.1 x4.2 hW _ 0 (Nat.lt_succ_self _) (by decide) (by rw [ii_0]; omega) (fun t ht => by rw [ii_0] at ht; omega)
      obtain ⟨kp, kq, kr⟩ := fourk h21 (S := S) (by omega) hS h0 (by omega : v20.toInt < 4)
      have kn : ((((4 : Int32) * v21 + v20).toNatClampNeg : Nat) : Int) = 4 * v21.toInt + v20.toInt := by rw [ii_cl, kp]; omega
      by_cases cs : u = v22
      · have hp := hW.push x4.1 x4.2 (fun t ht => u2 cs t (by omega))
        have hpl := hp.le
        have e22 : (v22 + (1 : Int32)).toInt = v22.toInt + 1 := ii_a rfl rfl (by omega) (by omega)
        have z22 : v22.toNatClampNeg = v22.toInt.toNat := ii_cl
        have zz : v22.toInt.toNat + 1 = (v22 + (1 : Int32)).toInt.toNat := by omega
        rw [zz, ← z22] at hp
        obtain ⟨u5, w5, g5, p1, p2, p3, p4⟩ := ih (v20 + 1) (v22 + 1) (upd f24 v22.toNatClampNeg (fa1 (((4 : Int32) * (f24 v21.toNatClampNeg)) + v20).toNatClampNeg)) (upd f23 ((4 : Int32) * v21 + v20).toNatClampNeg u) (by omega) (by omega) (by omega) (by omega) hp (by rw [e1]; exact hO.step h21 h0 c1 kn (by omega) u0 (by omega))
        exact ⟨u5, w5, g5, by omega, p2, p3, fun K hK => ⟨fun q => absurd q c, fun _ => ⟨hv, x3, _, ku _ (fun J hJ => ⟨fun q => absurd cs q, fun _ => ⟨vin (by omega), hJ _ _ ⟨kr, p4 K hK⟩⟩⟩)⟩⟩⟩
      · have hne2 : u.toInt ≠ v22.toInt := fun e => cs (l_eq.mpr e)
        obtain ⟨u5, w5, g5, p1, p2, p3, p4⟩ := ih (v20 + 1) v22 f24 (upd f23 ((4 : Int32) * v21 + v20).toNatClampNeg u) (by omega) (by omega) (by omega) (by omega) hW (by rw [e1]; exact hO.step h21 h0 c1 kn (by omega) u0 (by omega))
        exact ⟨u5, w5, g5, by omega, p2, p3, fun K hK => ⟨fun q => absurd q c, fun _ => ⟨hv, x3, _, ku _ (fun J hJ => ⟨fun _ => hJ _ _ ⟨kr, p4 K hK⟩, fun q => absurd q cs⟩)⟩⟩⟩
theorem le27 (fa1 : Nat → Int32) (S : Nat) (f3 : Nat → Int32) (hS : S ≤ 32) (hf : ∀ k s : Nat, k < S → s < 3 → 0 ≤ (fa1 (4 * k + s)).toInt ∧ (fa1 (4 * k + s)).toInt < S) (hg : ∀ k, k < S → (fa1 (4 * k + 3) = 0 ∨ fa1 (4 * k + 3) = 1)) :
    ∀ (n : Nat) (v9 v10 : Int32) (f12 f14 : Nat → Int32), (S - v9.toInt).toNat < n → 0 ≤ v9.toInt → v9.toInt ≤ v10.toInt → 1 ≤ v10.toInt → WD f14 v10.toInt.toNat S → OWp f12 (v9.toInt - 1) 3 v10.toInt →
      ∃ (u : Int32) (g : Nat → Int32), 1 ≤ u.toInt ∧ u.toInt ≤ S ∧ OWp g (u.toInt - 1) 3 u.toInt ∧ ∀ K : Int32 → (Nat → Int32) → Prop, K u g → wpl_X11_least_27 fa1 (4 * S) f3 S S (4 * S) K n v9 v10 f12 f14 := by
  intro n
  induction n with
  | zero => intro v9 v10 f12 f14 hm; exact absurd hm (Nat.not_lt_zero _)
  | succ n ih =>
    intro v9 v10 f12 f14 hm h0 hle h1 hW hO
    have hwl := hW.le
    by_cases c : v10 ≤ v9
    · have c1 := l_le.mp c
      refine ⟨v10, f12, h1, by omega, ?_, fun K hK => ⟨fun _ => hK, fun q => absurd c q⟩⟩
      rwa [show v9.toInt = v10.toInt by omega] at hO
    · have c1 := nle c
      have e1 := inc_i c
      have w1 := hW.1 v9.toNatClampNeg (by rw [ii_cl]; omega)
      obtain ⟨-, x2, x3⟩ := fourk w1.1 w1.2 hS (show 0 ≤ (3 : Int32).toInt by decide) (show (3 : Int32).toInt < 4 by decide)
      obtain ⟨kp, kq, kr⟩ := fourk h0 (S := S) (by omega) hS (show 0 ≤ (3 : Int32).toInt by decide) (show (3 : Int32).toInt < 4 by decide)
      have kn : ((((4 : Int32) * v9 + (3 : Int32)).toNatClampNeg : Nat) : Int) = 4 * v9.toInt + 3 := by rw [ii_cl, kp, show (3 : Int32).toInt = 3 from rfl]; omega
      have hv := hg (f14 v9.toNatClampNeg).toInt.toNat (by omega)
      rw [show 4 * (f14 v9.toNatClampNeg).toInt.toNat + 3 = ((4 : Int32) * (f14 v9.toNatClampNeg) + (3 : Int32)).toNatClampNeg by rw [x2]; rfl] at hv
      obtain ⟨u, w, g, p1, p2, p3, p4⟩ := le55 fa1 S f3 v9 hS hf h0 _ 0 v10 f14 (upd f12 ((4 : Int32) * v9 + (3 : Int32)).toNatClampNeg (fa1 ((4 : Int32) * (f14 v9.toNatClampNeg) + (3 : Int32)).toNatClampNeg)) (Nat.lt_succ_self _) (by decide) (by decide) c1 hW (by rw [ii_0]; exact hO.row h0 kn hv)
      obtain ⟨u2, g2, s1, s2, s3, s4⟩ := ih (v9 + 1) u g w (by omega) (by omega) (by omega) (by omega) p2 (by rw [e1, show v9.toInt + 1 - 1 = v9.toInt by omega]; exact p3)
      exact ⟨u2, g2, s1, s2, s3, fun K hK => ⟨fun q => absurd q c, fun _ => ⟨vin (by omega), x3, kr, _, p4 _ (s4 K hK)⟩⟩⟩
theorem lst (n : Nat) (fa1 : Nat → Int32) (h : OW n fa1) : VF (wp_X11_least n fa1) OWo := by
  obtain ⟨S, h1, hS, rfl, hf, hg⟩ := h.get
  obtain ⟨q1, q2, q3, q4⟩ := quart hS
  obtain ⟨f3, k3⟩ := al S fa1 hS hf
  have s1 : (nI S).toInt = (S : Int) := ii_nI (by omega)
  have s2 : (nI S).toNatClampNeg = S := by rw [ii_cl, s1]; omega
  obtain ⟨u, g, p1, p2, p3, p4⟩ := le27 fa1 S f3 hS hf hg _ 0 1 (fun _ => 0) (fun _ => 0) (Nat.lt_succ_self _) (by decide) (by decide) (by decide) ⟨fun i hi => by rw [show ((fun _ => 0 : Nat → Int32) i).toInt = 0 from rfl]; omega, fun i j hij hj => by rw [show (1 : Int32).toInt.toNat = 1 from rfl] at hj; omega⟩ ⟨fun k i hi hk => by rw [ii_0] at hk; omega, fun k hk => by rw [ii_0] at hk; omega⟩
  have k4 : ((4 : Int32) * u).toInt = 4 * u.toInt := ii_m rfl rfl (by omega) (by omega)
  obtain ⟨g2, hg2, k2⟩ := pt (4 * S) g ((4 : Int32) * u) (by omega) (by omega) (by omega)
  refine ⟨some (((4 : Int32) * u).toNatClampNeg, g2), fun n f e => ?_, fun K hK => k3 _ ⟨⟨by rw [l_lt, ii_0]; omega, by omega⟩, ⟨by rw [l_lt, ii_0]; omega, by omega⟩, ?_⟩⟩
  · cases e
    have e4 : ((4 : Int32) * u).toNatClampNeg = 4 * u.toInt.toNat := by rw [ii_cl, k4]; omega
    rw [e4]
    exact OWp.ow p1 (by omega) p3 (fun j hj => hg2 j (by omega))
  · rw [s2, q4]
    exact ⟨_, p4 _ (k2 _ hK)⟩
theorem tt63 (μ : TMem) (S : Nat) (f11 : Nat → Int32) (v23 : Int32) (v24 : Int64) (v25 : Int32) (hS : S ≤ 32) (h23 : 0 ≤ v23.toInt) (h23' : v23.toInt < S) :
    ∀ (n : Nat) (v22 : Int32) (f26 : Nat → Int64), (3 - v22.toInt).toNat < n → 0 ≤ v22.toInt → VF (fun K : (Nat → Int64) → Prop => wpl_X11_turnedTwice_63 μ (3 * S) f11 (4 * S) v23 v24 v25 K n v22 f26) (fun _ => True) := by
  intro n
  induction n with
  | zero => intro v22 f26 hm; exact absurd hm (Nat.not_lt_zero _)
  | succ n ih =>
    intro v22 f26 hm h0
    refine VF.ite (fun _ => VF.mk f26 trivial (fun _ h => h)) (fun c => ?_)
    have c1 := nle c
    have e1 := inc_i c
    rw [show (3 : Int32).toInt = 3 from rfl] at c1
    obtain ⟨-, -, a3⟩ := fourk h23 h23' hS h0 (by omega)
    have k : ((3 : Int32) * v23 + v22).toInt = 3 * v23.toInt + v22.toInt := ii_a (ii_m rfl rfl (by omega) (by omega)) rfl (by omega) (by omega)
    exact VF.side a3 (VF.side (vin (by omega)) (ih _ _ (by omega) (by omega)))
theorem tt54 (μ : TMem) (S : Nat) (f11 : Nat → Int32) (v17 : Int32) (hS : S ≤ 32) (h17 : v17.toInt = S) :
    ∀ (n : Nat) (v15 : Int32) (v16 : Int64) (f19 : Nat → Int64), (v17.toInt - v15.toInt).toNat < n → 0 ≤ v15.toInt → ∃ (r : Int64) (g : Nat → Int64), ∀ K : Int64 → (Nat → Int64) → Prop, K r g → wpl_X11_turnedTwice_54 μ (3 * S) f11 (4 * S) v17 K n v15 v16 f19 := by
  intro n
  induction n with
  | zero => intro v15 v16 f19 hm; exact absurd hm (Nat.not_lt_zero _)
  | succ n ih =>
    intro v15 v16 f19 hm h0
    by_cases c : v17 ≤ v15
    · exact ⟨v16, f19, fun K hK => ⟨fun _ => hK, fun q => absurd c q⟩⟩
    · have c1 := nle c
      have e1 := inc_i c
      obtain ⟨g, -, kg⟩ := tt63 μ S f11 v15 v16 v17 hS h0 (by omega) _ 0 f19 (Nat.lt_succ_self _) (by decide)
      obtain ⟨-, -, a3⟩ := fourk h0 (S := S) (by omega) hS (show 0 ≤ (3 : Int32).toInt by decide) (show (3 : Int32).toInt < 4 by decide)
      by_cases z : f11 ((4 : Int32) * v15 + (3 : Int32)).toNatClampNeg = (1 : Int32)
      · obtain ⟨r2, g2, k2⟩ := ih (v15 + 1) (v16 ||| ((1 : Int64) <<< (v15.toInt64 &&& 63))) g (by omega) (by omega)
        exact ⟨r2, g2, fun K hK => ⟨fun q => absurd q c, fun _ => ⟨_, kg _ ⟨a3, fun q => absurd z q, fun _ => k2 K hK⟩⟩⟩⟩
      · obtain ⟨r2, g2, k2⟩ := ih (v15 + 1) v16 g (by omega) (by omega)
        exact ⟨r2, g2, fun K hK => ⟨fun q => absurd q c, fun _ => ⟨_, kg _ ⟨a3, fun _ => k2 K hK, fun q => absurd q z⟩⟩⟩⟩
theorem opt_some {r : Option AI} {A : Prop} {B : Nat → (Nat → Int32) → Prop} {n : Nat} {f : Nat → Int32} (e : r = some (n, f)) (h : B n f) : (r = none → A) ∧ (∀ (n : Nat) (f : Nat → Int32), r = some (n, f) → B n f) := by
  refine ⟨fun e2 => (by rw [e] at e2; cases e2), fun n2 f2 e2 => ?_⟩
  rw [e] at e2
  cases e2
  exact h
theorem opt_none {r : Option AI} {A : Prop} {B : Nat → (Nat → Int32) → Prop} (e : r = none) (h : A) : (r = none → A) ∧ (∀ (n : Nat) (f : Nat → Int32), r = some (n, f) → B n f) := ⟨fun _ => h, fun n2 f2 e2 => (by rw [e] at e2; cases e2)⟩
theorem opt_same {r : Option AI} {Q : Option AI → Prop} (h : Q r) : (r = none → Q none) ∧ (∀ (n : Nat) (f : Nat → Int32), r = some (n, f) → Q (some (n, f))) := ⟨fun e => by rw [e] at h; exact h, fun n f e => by rw [e] at h; exact h⟩
theorem tt (μ : TMem) (a1 : Int32) (hI : Mny μ) (h5 : 0 ≤ a1.toInt) (h5' : a1.toInt ≤ 3) : VF (wp_X11_turnedTwice μ a1) OWo := by
  obtain ⟨g, kg⟩ := aa μ a1 h5 h5'
  have hm := hI.at h5 h5'
  obtain ⟨r, hr, kr⟩ := ow 21 g (μ 1 a1.toNatClampNeg) ((μ 2 a1.toNatClampNeg).toInt64) ((μ 3 a1.toNatClampNeg).toInt64) (1 : Int32) (by omega) (by omega)
  have hv : vp_in a1 4 := vin (by omega)
  rcases r with _ | ⟨n, f⟩
  · exact ⟨none, fun n f e => (by cases e), fun K hK => kg μ rfl _ ⟨hv, hv, hv, kr _ (opt_none rfl hK)⟩⟩
  · obtain ⟨S, h1, hS, rfl, hf, hgb⟩ := (hr n f rfl).get
    obtain ⟨q1, q2, q3, q4⟩ := quart hS
    have t1 : ((3 : Int32) * ((nI (4 * S)) / (4 : Int32))).toInt = 3 * (S : Int) := ii_m rfl q1 (by omega) (by omega)
    have t2 : ((3 : Int32) * ((nI (4 * S)) / (4 : Int32))).toNatClampNeg = 3 * S := by rw [ii_cl, t1]; omega
    obtain ⟨lst2, g2, k2⟩ := tt54 μ S f ((nI (4 * S)) / (4 : Int32)) hS q1 _ 0 0 (fun _ => 0) (Nat.lt_succ_self _) (by decide)
    obtain ⟨r3, hr3, k3⟩ := ow (3 * S) g2 ((nI (4 * S)) / (4 : Int32)) (1 : Int64) lst2 (1 : Int32) (by omega) (by omega)
    refine ⟨r3, hr3, fun K hK => kg μ rfl _ ⟨hv, hv, hv, kr _ (opt_some rfl ⟨⟨by rw [l_lt, ii_0]; omega, by omega⟩, ?_⟩)⟩⟩
    rw [t2]
    exact ⟨_, k2 _ (k3 _ (opt_same hK))⟩
theorem fnd (μ : TMem) (a1 a2 : Int32) (hI : Mny μ) (h5 : 0 ≤ a1.toInt) (h5' : a1.toInt ≤ 3) : VF (wp_X11_found μ a1 a2) OWo := by
  refine VF.itn (fun _ => VF.itn (fun _ => ?_) (fun _ => ?_)) (fun _ => ?_)
  · obtain ⟨r, hr, k⟩ := owm μ a1 hI h5 h5'
    rcases r with _ | ⟨n, f⟩
    · exact ⟨none, fun n f e => (by cases e), fun K hK => k μ (fun _ _ => rfl) _ (opt_none rfl (opt_none rfl hK))⟩
    · obtain ⟨r2, hr2, k2⟩ := lst n f (hr n f rfl)
      exact ⟨r2, hr2, fun K hK => k μ (fun _ _ => rfl) _ (opt_some rfl (k2 _ (opt_same hK)))⟩
  · obtain ⟨r, hr, k⟩ := tt μ a1 hI h5 h5'
    exact ⟨r, hr, fun K hK => k _ (opt_same hK)⟩
  · obtain ⟨r, hr, k⟩ := owm μ a1 hI h5 h5'
    exact ⟨r, hr, fun K hK => k μ (fun _ _ => rfl) _ (opt_same hK)⟩
end RTH
end
/-! part 92.rfour -/
section
section RFO
theorem VF.Jg {α β : Type} {P : α → Prop} {G : β → (α → Prop) → Prop} {T : (β → Prop) → Prop} (a : β) (hT : ∀ J : β → Prop, J a → T J) (h : VF (G a) P) : VF (fun K => ∀ J : β → Prop, (∀ j, G j K → J j) → T J) P := by
  obtain ⟨r, h, g⟩ := h
  exact ⟨r, h, fun K hK J hJ => hT J (hJ a (g K hK))⟩
/-- how many words of each length: rows ahead of a, and of row a the states ahead of b -/
def WC (fa : Nat → Int32) (S : Nat) (g : Nat → Int32) (a b : Nat) : Prop := ∀ r st : Nat, st < S → (r < a ∨ (r = a ∧ st < b)) → 0 ≤ (g (r * S + st)).toInt ∧ (g (r * S + st)).toInt ≤ ((3 ^ r : Nat) : Int) ∧ (1 ≤ r → (g (r * S + st)).toInt = (g ((r - 1) * S + (fa (4 * st)).toInt.toNat)).toInt + (g ((r - 1) * S + (fa (4 * st + 1)).toInt.toNat)).toInt + (g ((r - 1) * S + (fa (4 * st + 2)).toInt.toNat)).toInt)
theorem rows_lt {r a S : Nat} (h : r < a) : r * S + S ≤ a * S := by
  have := Nat.mul_le_mul_right S (show r + 1 ≤ a from h)
  rw [Nat.succ_mul] at this
  exact this
theorem rows_ne {r a S st b : Nat} (hst : st < S) (hb : b < S) (h : ¬ (r = a ∧ st = b)) : r * S + st ≠ a * S + b := by
  intro e
  rcases Nat.lt_trichotomy r a with q | q | q
  · have := rows_lt (S := S) q
    omega
  · subst q
    exact h ⟨rfl, by omega⟩
  · have := rows_lt (S := S) q
    omega
theorem WC.step {fa g : Nat → Int32} {S a b : Nat} {j : Int32} (h : WC fa S g a b) (hb : b < S) (hf : ∀ k s : Nat, k < S → s < 3 → 0 ≤ (fa (4 * k + s)).toInt ∧ (fa (4 * k + s)).toInt < S) (h0 : 0 ≤ j.toInt) (h1 : j.toInt ≤ ((3 ^ a : Nat) : Int)) (h2 : 1 ≤ a → j.toInt = (g ((a - 1) * S + (fa (4 * b)).toInt.toNat)).toInt + (g ((a - 1) * S + (fa (4 * b + 1)).toInt.toNat)).toInt + (g ((a - 1) * S + (fa (4 * b + 2)).toInt.toNat)).toInt) : WC fa S (upd g (a * S + b) j) a (b + 1) := by
  intro r st hst hr
  have rd : ∀ k s : Nat, k < S → s < 3 → 1 ≤ r → upd g (a * S + b) j ((r - 1) * S + (fa (4 * k + s)).toInt.toNat) = g ((r - 1) * S + (fa (4 * k + s)).toInt.toNat) := fun k s hk hs h1r => by
    have := hf k s hk hs
    exact upd_ne (rows_ne (by omega) hb (by omega))
  by_cases e : r = a ∧ st = b
  · obtain ⟨rfl, rfl⟩ := e
    rw [upd_at]
    refine ⟨h0, h1, fun q => ?_⟩
    have a0 := rd st 0 hst (by omega) q
    have a1 := rd st 1 hst (by omega) q
    have a2 := rd st 2 hst (by omega) q
    rw [Nat.add_zero] at a0
    rw [a0, a1, a2]
    exact h2 q
  · rw [upd_ne (rows_ne hst hb e)]
    obtain ⟨x1, x2, x3⟩ := h r st hst (by omega)
    refine ⟨x1, x2, fun q => ?_⟩
    have a0 := rd st 0 hst (by omega) q
    have a1 := rd st 1 hst (by omega) q
    have a2 := rd st 2 hst (by omega) q
    rw [Nat.add_zero] at a0
    rw [a0, a1, a2]
    exact x3 q
theorem WC.row {fa g : Nat → Int32} {S a b : Nat} (h : WC fa S g a b) (hb : S ≤ b) : WC fa S g (a + 1) 0 := fun r st hst hr => h r st hst (by omega)
theorem idx {x y z : Int32} {a S b : Nat} (hx : x.toInt = a) (hy : y.toInt = S) (hz : z.toInt = b) (ha : a ≤ 12) (hS : S ≤ 32) (hb : b < S) : (x * y + z).toInt = ((a * S + b : Nat) : Int) ∧ (x * y + z).toNatClampNeg = a * S + b ∧ a * S ≤ 384 := by
  have hm : a * S ≤ 12 * 32 := Nat.mul_le_mul ha hS
  have hp : (x * y).toInt = (a : Int) * (S : Int) := ii_m hx hy (by rw [← Int.natCast_mul]; omega) (by rw [← Int.natCast_mul]; omega)
  have k : (x * y + z).toInt = ((a * S + b : Nat) : Int) := by
    rw [ii_a hp hz (by rw [← Int.natCast_mul]; omega) (by rw [← Int.natCast_mul]; omega), Int.natCast_add, Int.natCast_mul]
  exact ⟨k, by rw [ii_cl, k]; omega, by omega⟩
theorem tn_lt {z : Int32} {S : Nat} (h : 0 ≤ z.toInt ∧ z.toInt < S) : z.toInt.toNat < S := by omega
theorem vin_big {w : Int32} {a S q L : Nat} (hw : w.toInt = ((a * S + q : Nat) : Int)) (hq : q < S) (ha : a < L + 1) : vp_in w (S * (L + 1)) := by
  have h := rows_lt (S := S) ha
  rw [Nat.mul_comm S (L + 1)]
  exact vin (by rw [hw]; omega)
theorem wy25 (fa1 : Nat → Int32) (S L a : Nat) (v12 v13 v14 : Int32) (h1 : 1 ≤ S) (hS : S ≤ 32) (hL : L ≤ 12) (ha : a ≤ L) (h12 : v12.toInt = a) (h13 : v13.toInt = S) (hf : ∀ k s : Nat, k < S → s < 3 → 0 ≤ (fa1 (4 * k + s)).toInt ∧ (fa1 (4 * k + s)).toInt < S) (hg : ∀ k, k < S → (fa1 (4 * k + 3) = 0 ∨ fa1 (4 * k + 3) = 1)) :
    ∀ (n : Nat) (v11 : Int32) (f15 : Nat → Int32), (v13.toInt - v11.toInt).toNat < n → 0 ≤ v11.toInt → WC fa1 S f15 a v11.toInt.toNat → VF (fun K : (Nat → Int32) → Prop => wpl_X11_ways_25 fa1 (4 * S) (S * (L + 1)) v12 v13 v14 K n v11 f15) (fun g => WC fa1 S g (a + 1) 0) := by
  intro n
  induction n with
  | zero => intro v11 f15 hm; exact absurd hm (Nat.not_lt_zero _)
  | succ n ih =>
    intro v11 f15 hm h0 hW
    refine VF.ite (fun c => VF.mk f15 (hW.row (by have := l_le.mp c; omega)) (fun _ h => h)) (fun c => ?_)
    have c1 := nle c
    have e1 := inc_i c
    obtain ⟨p1, p2, p3⟩ := fourk h0 (S := S) (by omega) hS (show 0 ≤ (3 : Int32).toInt by decide) (show (3 : Int32).toInt < 4 by decide)
    obtain ⟨i1, i2, i3⟩ := idx (z := v11) (b := v11.toInt.toNat) h12 h13 (by omega) (by omega) hS (by omega)
    have hrow := rows_lt (S := S) (show a < L + 1 by omega)
    have hcm : S * (L + 1) = (L + 1) * S := Nat.mul_comm _ _
    have hin : vp_in (v12 * v13 + v11) (S * (L + 1)) := vin (by rw [i1, hcm]; omega)
    have e11 : v11.toInt.toNat + 1 = (v11 + (1 : Int32)).toInt.toNat := by omega
    have m1 : (v13.toInt - (v11 + (1 : Int32)).toInt).toNat < n := by omega
    have m2 : 0 ≤ (v11 + (1 : Int32)).toInt := by omega
    have m3 : a - 1 < L + 1 := Nat.lt_of_le_of_lt (Nat.sub_le _ _) (Nat.lt_succ_of_le ha)
    refine VF.side p3 ?_
    by_cases z : v12 ≤ 0
    · refine VF.Jg (fa1 ((4 : Int32) * v11 + (3 : Int32)).toNatClampNeg) (fun J hJ => ⟨fun _ => hJ, fun q => absurd z q⟩) (VF.side hin ?_)
      have z1 := l_le.mp z
      rw [ii_0] at z1
      have a0 : a = 0 := by omega
      refine ih (v11 + 1) _ m1 m2 ?_
      rw [i2, ← e11]
      have hv := hg v11.toInt.toNat (by omega)
      rw [show 4 * v11.toInt.toNat + 3 = ((4 : Int32) * v11 + (3 : Int32)).toNatClampNeg by rw [p2]; rfl] at hv
      refine hW.step (by omega) hf ?_ ?_ (fun q => by omega)
      · rcases hv with e | e <;> rw [e] <;> decide
      · rw [a0]
        rcases hv with e | e <;> rw [e] <;> decide
    · have z1 : 0 < v12.toInt := by
        rw [l_le, ii_0] at z
        omega
      have b1 : (v12 - (1 : Int32)).toInt = ((a - 1 : Nat) : Int) := by
        have : (v12 - (1 : Int32)).toInt = v12.toInt - 1 := ii_s rfl rfl (by omega) (by omega)
        omega
      have pz : ((4 : Int32) * v11).toInt = 4 * v11.toInt := ii_m rfl rfl (by omega) (by omega)
      have hv4 : vp_in ((4 : Int32) * v11) (4 * S) := vin (by omega)
      have pz2 : ((4 : Int32) * v11).toNatClampNeg = 4 * v11.toInt.toNat := by rw [ii_cl, pz]; omega
      obtain ⟨o1, o2, o3⟩ := fourk h0 (S := S) (by omega) hS (show 0 ≤ (1 : Int32).toInt by decide) (show (1 : Int32).toInt < 4 by decide)
      obtain ⟨t1, t2, t3⟩ := fourk h0 (S := S) (by omega) hS (show 0 ≤ (2 : Int32).toInt by decide) (show (2 : Int32).toInt < 4 by decide)
      rw [show (1 : Int32).toInt.toNat = 1 from rfl] at o2
      rw [show (2 : Int32).toInt.toNat = 2 from rfl] at t2
      have x0 := hf v11.toInt.toNat 0 (by omega) (by omega)
      have x1 := hf v11.toInt.toNat 1 (by omega) (by omega)
      have x2 := hf v11.toInt.toNat 2 (by omega) (by omega)
      rw [Nat.add_zero, ← pz2] at x0
      rw [← o2] at x1
      rw [← t2] at x2
      obtain ⟨u1, u2, u3⟩ := idx (z := fa1 ((4 : Int32) * v11).toNatClampNeg) (b := (fa1 ((4 : Int32) * v11).toNatClampNeg).toInt.toNat) b1 h13 (by omega) (by omega) hS (by omega)
      obtain ⟨w1, w2, w3⟩ := idx (z := fa1 ((4 : Int32) * v11 + (1 : Int32)).toNatClampNeg) (b := (fa1 ((4 : Int32) * v11 + (1 : Int32)).toNatClampNeg).toInt.toNat) b1 h13 (by omega) (by omega) hS (by omega)
      obtain ⟨y1, y2, y3⟩ := idx (z := fa1 ((4 : Int32) * v11 + (2 : Int32)).toNatClampNeg) (b := (fa1 ((4 : Int32) * v11 + (2 : Int32)).toNatClampNeg).toInt.toNat) b1 h13 (by omega) (by omega) hS (by omega)
      have hr1 := rows_lt (S := S) (show a - 1 < L + 1 by omega)
      have g0 := hW (a - 1) (fa1 ((4 : Int32) * v11).toNatClampNeg).toInt.toNat (by omega) (by omega)
      have g1 := hW (a - 1) (fa1 ((4 : Int32) * v11 + (1 : Int32)).toNatClampNeg).toInt.toNat (by omega) (by omega)
      have g2 := hW (a - 1) (fa1 ((4 : Int32) * v11 + (2 : Int32)).toNatClampNeg).toInt.toNat (by omega) (by omega)
      rw [← u2] at g0
      rw [← w2] at g1
      rw [← y2] at g2
      have hpow : 3 ^ a = 3 ^ (a - 1) * 3 := by
        rw [← Nat.pow_succ]
        congr 1
        omega
      have hpb : 3 ^ (a - 1) ≤ 3 ^ 11 := Nat.pow_le_pow_right (by decide) (by omega)
      have hp11 : 3 ^ 11 = 177147 := by decide
      have sm : ((f15 ((v12 - (1 : Int32)) * v13 + fa1 ((4 : Int32) * v11).toNatClampNeg).toNatClampNeg + f15 ((v12 - (1 : Int32)) * v13 + fa1 ((4 : Int32) * v11 + (1 : Int32)).toNatClampNeg).toNatClampNeg) + f15 ((v12 - (1 : Int32)) * v13 + fa1 ((4 : Int32) * v11 + (2 : Int32)).toNatClampNeg).toNatClampNeg).toInt = _ + _ + _ := ii_a (ii_a rfl rfl (by omega) (by omega)) rfl (by omega) (by omega)
      refine VF.Jg _ (fun J hJ => ⟨fun q => absurd q z, fun _ => ⟨hv4, vin_big u1 (tn_lt x0) m3, o3, vin_big w1 (tn_lt x1) m3, t3, vin_big y1 (tn_lt x2) m3, hJ⟩⟩) (VF.side hin ?_)
      refine ih (v11 + 1) _ m1 m2 ?_
      rw [i2, ← e11]
      refine hW.step (by omega) hf ?_ ?_ (fun q => ?_)
      · rw [sm]
        omega
      · rw [sm, hpow]
        omega
      · rw [sm, u2, w2, y2, pz2, o2, t2]
theorem wy16 (fa1 : Nat → Int32) (S L : Nat) (v5 v6 : Int32) (h1 : 1 ≤ S) (hS : S ≤ 32) (hL : L ≤ 12) (h5 : v5.toInt = S) (h6 : v6.toInt = L) (hf : ∀ k s : Nat, k < S → s < 3 → 0 ≤ (fa1 (4 * k + s)).toInt ∧ (fa1 (4 * k + s)).toInt < S) (hg : ∀ k, k < S → (fa1 (4 * k + 3) = 0 ∨ fa1 (4 * k + 3) = 1)) :
    ∀ (n : Nat) (v4 : Int32) (f8 : Nat → Int32), (v6.toInt + 1 - v4.toInt).toNat < n → 0 ≤ v4.toInt → v4.toInt ≤ L + 1 → WC fa1 S f8 v4.toInt.toNat 0 → ∃ g : Nat → Int32, WC fa1 S g (L + 1) 0 ∧ ∀ Q : Nat → (Nat → Int32) → Prop, Q (S * (L + 1)) g → wpl_X11_ways_16 fa1 (4 * S) (S * (L + 1)) v5 v6 Q n v4 f8 := by
  intro n
  induction n with
  | zero => intro v4 f8 hm; exact absurd hm (Nat.not_lt_zero _)
  | succ n ih =>
    intro v4 f8 hm h0 hle hW
    by_cases c : v6 < v4
    · have c1 := l_lt.mp c
      exact ⟨f8, by rwa [show v4.toInt.toNat = L + 1 by omega] at hW, fun Q hQ => ⟨fun _ => hQ, fun q => absurd c q⟩⟩
    · have c1 : v4.toInt ≤ L := by
        rw [l_lt] at c
        omega
      have e1 : (v4 + (1 : Int32)).toInt = v4.toInt + 1 := ii_a rfl rfl (by omega) (by omega)
      obtain ⟨g, hgw, kg⟩ := wy25 fa1 S L v4.toInt.toNat v4 v5 v6 h1 hS hL (by omega) (by omega) h5 hf hg _ 0 f8 (Nat.lt_succ_self _) (by decide) hW
      rw [show v4.toInt.toNat + 1 = (v4 + (1 : Int32)).toInt.toNat by omega] at hgw
      obtain ⟨g2, hg2, k2⟩ := ih (v4 + 1) g (by omega) (by omega) (by omega) hgw
      exact ⟨g2, hg2, fun Q hQ => ⟨fun q => absurd q c, fun _ => ⟨_, kg _ (k2 Q hQ)⟩⟩⟩
theorem wy (S L : Nat) (fa1 : Nat → Int32) (a2 : Int32) (h1 : 1 ≤ S) (hS : S ≤ 32) (hL : L ≤ 12) (h2 : a2.toInt = L) (hf : ∀ k s : Nat, k < S → s < 3 → 0 ≤ (fa1 (4 * k + s)).toInt ∧ (fa1 (4 * k + s)).toInt < S) (hg : ∀ k, k < S → (fa1 (4 * k + 3) = 0 ∨ fa1 (4 * k + 3) = 1)) : ∃ g : Nat → Int32, WC fa1 S g (L + 1) 0 ∧ ∀ Q : Nat → (Nat → Int32) → Prop, Q (S * (L + 1)) g → wp_X11_ways (4 * S) fa1 a2 Q := by
  obtain ⟨q1, q2, q3, q4⟩ := quart hS
  obtain ⟨g, hw, k⟩ := wy16 fa1 S L ((nI (4 * S)) / (4 : Int32)) a2 h1 hS hL q1 h2 hf hg _ 0 (fun _ => 0) (Nat.lt_succ_self _) (by decide) (by rw [ii_0]; omega) (fun r st _ hr => by rw [show (0 : Int32).toInt.toNat = 0 from rfl] at hr; omega)
  have ea : (a2 + (1 : Int32)).toInt = ((L + 1 : Nat) : Int) := by
    have : (a2 + (1 : Int32)).toInt = a2.toInt + 1 := ii_a rfl rfl (by omega) (by omega)
    omega
  have hm : S * (L + 1) ≤ 32 * 13 := Nat.mul_le_mul hS (by omega)
  have et : (((nI (4 * S)) / (4 : Int32)) * (a2 + (1 : Int32))).toInt = (S : Int) * ((L + 1 : Nat) : Int) := ii_m q1 ea (by rw [← Int.natCast_mul]; omega) (by rw [← Int.natCast_mul]; omega)
  rw [← Int.natCast_mul] at et
  have ec : (((nI (4 * S)) / (4 : Int32)) * (a2 + (1 : Int32))).toNatClampNeg = S * (L + 1) := by rw [ii_cl, et]; omega
  refine ⟨g, hw, fun Q hQ => ⟨⟨by rw [l_lt, ii_0]; omega, by omega⟩, ?_⟩⟩
  rw [ec]
  exact ⟨_, k Q hQ⟩
/-- a pair's number -/
def PR (S1 S2 : Nat) (p : Int32) : Prop := 0 ≤ p.toInt ∧ p.toInt / 32 < S1 ∧ p.toInt % 32 < S2
theorem PR.parts {S1 S2 : Nat} {p : Int32} (h : PR S1 S2 p) : (p / (32 : Int32)).toInt = p.toInt / 32 ∧ (p - p / (32 : Int32) * (32 : Int32)).toInt = p.toInt % 32 := by
  have h1 : (p / (32 : Int32)).toInt = p.toInt / 32 := ii_d rfl rfl h.1 (by decide)
  have h2 := p.toInt_lt
  have h3 := h.1
  refine ⟨h1, ?_⟩
  have h4 : (p - p / (32 : Int32) * (32 : Int32)).toInt = p.toInt - p.toInt / 32 * 32 := ii_s rfl (ii_m h1 rfl (by omega) (by omega)) (by omega) (by omega)
  omega
theorem PR.mk {S1 S2 : Nat} {x y : Int32} (h1 : S1 ≤ 32) (h2 : S2 ≤ 32) (hx : 0 ≤ x.toInt ∧ x.toInt < S1) (hy : 0 ≤ y.toInt ∧ y.toInt < S2) : (x * (32 : Int32) + y).toInt = x.toInt * 32 + y.toInt ∧ PR S1 S2 (x * (32 : Int32) + y) := by
  have k : (x * (32 : Int32) + y).toInt = x.toInt * 32 + y.toInt := ii_a (ii_m rfl rfl (by omega) (by omega)) rfl (by omega) (by omega)
  exact ⟨k, by omega, by omega, by omega⟩
theorem iu (S1 S2 : Nat) (fa1 fa2 : Nat → Int32) (a3 : Int32) (h1 : S1 ≤ 32) (h2 : S2 ≤ 32) (h : PR S1 S2 a3) : VF (wp_X11_isUnlike (4 * S1) fa1 (4 * S2) fa2 a3) isB := by
  obtain ⟨e1, e2⟩ := h.parts
  obtain ⟨g1, g2, g3⟩ := h
  obtain ⟨-, -, x3⟩ := fourk (x := a3 / (32 : Int32)) (S := S1) (by omega) (by omega) h1 (show 0 ≤ (3 : Int32).toInt by decide) (show (3 : Int32).toInt < 4 by decide)
  obtain ⟨-, -, y3⟩ := fourk (x := a3 - a3 / (32 : Int32) * (32 : Int32)) (S := S2) (by omega) (by omega) h2 (show 0 ≤ (3 : Int32).toInt by decide) (show (3 : Int32).toInt < 4 by decide)
  exact VF.side x3 (VF.side y3 (VF.ite (fun _ => VF.mk 0 (Or.inl rfl) (fun _ h => h)) (fun _ => VF.mk 1 (Or.inr rfl) (fun _ h => h))))
end RFO
end
