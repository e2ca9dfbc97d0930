section RLB
theorem l_le {a b : Int32} : a ≤ b ↔ a.toInt ≤ b.toInt := Int32.le_iff_toInt_le
theorem l_lt {a b : Int32} : a < b ↔ a.toInt < b.toInt := Int32.lt_iff_toInt_lt
theorem l_eq {a b : Int32} : a = b ↔ a.toInt = b.toInt := Int32.toInt_inj.symm
theorem ii_add {x y : Int32} (h1 : -2147483648 ≤ x.toInt + y.toInt) (h2 : x.toInt + y.toInt < 2147483648) : (x + y).toInt = x.toInt + y.toInt := by
  rw [Int32.toInt_add]
  exact Int.bmod_eq_of_le (by omega) (by omega)
theorem ii_sub {x y : Int32} (h1 : -2147483648 ≤ x.toInt - y.toInt) (h2 : x.toInt - y.toInt < 2147483648) : (x - y).toInt = x.toInt - y.toInt := by
  rw [Int32.toInt_sub]
  exact Int.bmod_eq_of_le (by omega) (by omega)
theorem ii_mul {x y : Int32} (h1 : -2147483648 ≤ x.toInt * y.toInt) (h2 : x.toInt * y.toInt < 2147483648) : (x * y).toInt = x.toInt * y.toInt := by
  rw [Int32.toInt_mul]
  exact Int.bmod_eq_of_le (by omega) (by omega)
theorem ii_div {x y : Int32} (h1 : 0 ≤ x.toInt) (h2 : 0 < y.toInt) : (x / y).toInt = x.toInt / y.toInt := by
  have h3 : 0 ≤ x.toInt / y.toInt := Int.ediv_nonneg h1 (Int.le_of_lt h2)
  have h4 : x.toInt / y.toInt ≤ x.toInt := Int.ediv_le_self _ h1
  have h5 := x.toInt_lt
  rw [Int32.toInt_div, Int.tdiv_eq_ediv_of_nonneg h1]
  exact Int.bmod_eq_of_le (by omega) (by omega)
theorem ii_a {x y : Int32} {a b : Int} (hx : x.toInt = a) (hy : y.toInt = b) (h1 : -2147483648 ≤ a + b) (h2 : a + b < 2147483648) : (x + y).toInt = a + b := by
  subst hx
  subst hy
  exact ii_add h1 h2
theorem ii_s {x y : Int32} {a b : Int} (hx : x.toInt = a) (hy : y.toInt = b) (h1 : -2147483648 ≤ a - b) (h2 : a - b < 2147483648) : (x - y).toInt = a - b := by
  subst hx
  subst hy
  exact ii_sub h1 h2
theorem ii_m {x y : Int32} {a b : Int} (hx : x.toInt = a) (hy : y.toInt = b) (h1 : -2147483648 ≤ a * b) (h2 : a * b < 2147483648) : (x * y).toInt = a * b := by
  subst hx
  subst hy
  exact ii_mul h1 h2
theorem ii_d {x y : Int32} {a b : Int} (hx : x.toInt = a) (hy : y.toInt = b) (h1 : 0 ≤ a) (h2 : 0 < b) : (x / y).toInt = a / b := by
  subst hx
  subst hy
  exact ii_div h1 h2
theorem ii_nI {n : Nat} (h : n < 2147483648) : (nI n).toInt = (n : Int) := nI_toInt h
theorem ii_cl {x : Int32} : x.toNatClampNeg = x.toInt.toNat := rfl
theorem ii_0 : (0 : Int32).toInt = 0 := rfl
theorem vin {x : Int32} {n : Nat} (h : 0 ≤ x.toInt ∧ x.toInt < n) : vp_in x n := vp_in_iff.mpr h
theorem jI {P : Int32 → Prop} {a : Int32} : (∀ J : Int32 → Prop, (∀ j, P j → J j) → J a) ↔ P a := ⟨fun h => h P (fun _ z => z), fun h J hJ => hJ a h⟩
/-- a predicate over what comes out, that comes out with a value -/
def VF {α : Type} (W : (α → Prop) → Prop) (P : α → Prop) : Prop := ∃ r, P r ∧ ∀ K : α → Prop, K r → W K
variable {α : Type} {A B : (α → Prop) → Prop} {P P1 P2 : α → Prop} {c : Prop}
theorem VF.mk (r : α) (h : P r) (hA : ∀ K : α → Prop, K r → A K) : VF A P := ⟨r, h, hA⟩
theorem VF.ite (h1 : c → VF A P) (h2 : ¬ c → VF B P) : VF (fun K => (c → A K) ∧ (¬ c → B K)) P := by
  by_cases z : c
  · obtain ⟨r, h, g⟩ := h1 z
    exact ⟨r, h, fun K hK => ⟨fun _ => g K hK, fun q => absurd z q⟩⟩
  · obtain ⟨r, h, g⟩ := h2 z
    exact ⟨r, h, fun K hK => ⟨fun q => absurd q z, fun _ => g K hK⟩⟩
theorem VF.itn (h1 : ¬ c → VF A P) (h2 : c → VF B P) : VF (fun K => (¬ c → A K) ∧ (c → B K)) P := by
  by_cases z : c
  · obtain ⟨r, h, g⟩ := h2 z
    exact ⟨r, h, fun K hK => ⟨fun q => absurd z q, fun _ => g K hK⟩⟩
  · obtain ⟨r, h, g⟩ := h1 z
    exact ⟨r, h, fun K hK => ⟨fun _ => g K hK, fun q => absurd q z⟩⟩
theorem VF.side (hc : c) (h : VF A P) : VF (fun K => c ∧ A K) P := by
  obtain ⟨r, h, g⟩ := h
  exact ⟨r, h, fun K hK => ⟨hc, g K hK⟩⟩
theorem VF.J {β : Type} {G : β → (α → Prop) → Prop} {a b : β} (h1 : c → VF (G a) P) (h2 : ¬ c → VF (G b) P) : VF (fun K => ∀ J : β → Prop, (∀ j, G j K → J j) → ((c → J a) ∧ (¬ c → J b))) P := by
  by_cases z : c
  · obtain ⟨r, h, g⟩ := h1 z
    exact ⟨r, h, fun K hK J hJ => ⟨fun _ => hJ _ (g K hK), fun q => absurd z q⟩⟩
  · obtain ⟨r, h, g⟩ := h2 z
    exact ⟨r, h, fun K hK J hJ => ⟨fun q => absurd q z, fun _ => hJ _ (g K hK)⟩⟩
theorem VF.Jn {β : Type} {G : β → (α → Prop) → Prop} {a b : β} (h1 : ¬ c → VF (G a) P) (h2 : c → VF (G b) P) : VF (fun K => ∀ J : β → Prop, (∀ j, G j K → J j) → ((¬ c → J a) ∧ (c → J b))) P := by
  by_cases z : c
  · obtain ⟨r, h, g⟩ := h2 z
    exact ⟨r, h, fun K hK J hJ => ⟨fun q => absurd z q, fun _ => hJ _ (g K hK)⟩⟩
  · obtain ⟨r, h, g⟩ := h1 z
    exact ⟨r, h, fun K hK J hJ => ⟨fun _ => hJ _ (g K hK), fun q => absurd q z⟩⟩
theorem VF.imp (h : VF A P1) (g : ∀ r, P1 r → P r) : VF A P := by
  obtain ⟨r, h, k⟩ := h
  exact ⟨r, g r h, k⟩
theorem VF.call {β : Type} {W : (β → Prop) → Prop} {PW : β → Prop} {G : β → (α → Prop) → Prop} (h : VF W PW) (g : ∀ r, PW r → VF (G r) P) : VF (fun K => W (fun r => G r K)) P := by
  obtain ⟨r, h, k⟩ := h
  obtain ⟨r2, h2, k2⟩ := g r h
  exact ⟨r2, h2, fun K hK => k _ (k2 K hK)⟩
/-- a loop with its fuel -/
theorem VF.loop {W : Nat → (α → Prop) → Prop} (n : Nat) (h : VF (W n) P) : VF (fun K => ∃ n, W n K) P := by
  obtain ⟨r, h, k⟩ := h
  exact ⟨r, h, fun K hK => ⟨n, k K hK⟩⟩
theorem VF.use (h : VF A P) {Q : α → Prop} (g : ∀ r, P r → Q r) : A Q := by
  obtain ⟨r, h, k⟩ := h
  exact k Q (g r h)
/-- a one-way machine by its rows -/
def OW (n : Nat) (f : Nat → Int32) : Prop := ∃ S : Nat, 1 ≤ S ∧ S ≤ 32 ∧ n = 4 * S ∧ ∀ k, k < S → (∀ s, s < 3 → 0 ≤ (f (4 * k + s)).toInt ∧ (f (4 * k + s)).toInt < S) ∧ (f (4 * k + 3) = 0 ∨ f (4 * k + 3) = 1)
def OWo (r : Option AI) : Prop := ∀ n f, r = some (n, f) → OW n f
theorem inc_i {x B : Int32} (h : ¬ B ≤ x) : (x + (1 : Int32)).toInt = x.toInt + 1 := inc_t h
theorem nle {B x : Int32} (h : ¬ B ≤ x) : x.toInt < B.toInt := by
  rw [l_le] at h
  omega
theorem upd_at {f : Nat → Int32} {k : Nat} {x : Int32} : upd f k x k = x := by simp [upd]
theorem upd_ne {f : Nat → Int32} {k j : Nat} {x : Int32} (h : j ≠ k) : upd f k x j = f j := by simp [upd, h]
end RLB
