section RTH
theorem pig : ∀ (S m : Nat) (g : Nat → Nat), (∀ i, i < m → g i < S) → (∀ i j, i < j → j < m → g i ≠ g j) → m ≤ S := by
  intro S
  induction S with
  | zero =>
    intro m g h1 h2
    rcases m with _ | m
    · exact Nat.le_refl 0
    · exact absurd (h1 0 (by omega)) (Nat.not_lt_zero _)
  | succ S ih =>
    intro m g h1 h2
    by_cases h : ∃ i, i < m ∧ g i = S
    · obtain ⟨i0, hi0, e0⟩ := h
      have hn : ∀ k, k < m → k ≠ i0 → g k < S := fun k hk hne => by
        have a1 := h1 k hk
        have a2 : g k ≠ S := fun e => by
          rcases Nat.lt_or_gt_of_ne hne with q | q
          · exact h2 k i0 q hi0 (by rw [e, e0])
          · exact h2 i0 k q hk (by rw [e, e0])
        omega
      have := ih (m - 1) (fun j => if j < i0 then g j else g (j + 1)) (fun i hi => by
        by_cases q : i < i0
        · simp only [q, if_true]
          exact hn i (by omega) (by omega)
        · simp only [q, if_false]
          exact hn (i + 1) (by omega) (by omega)) (fun i j hij hj => by
        by_cases q : j < i0
        · have q2 : i < i0 := by omega
          simp only [q, q2, if_true]
          exact h2 i j hij (by omega)
        · by_cases q2 : i < i0
          · simp only [q, q2, if_true, if_false]
            exact h2 i (j + 1) (by omega) (by omega)
          · simp only [q, q2, if_false]
            exact h2 (i + 1) (j + 1) (by omega) (by omega))
      omega
    · have := ih m g (fun i hi => by
        have a1 := h1 i hi
        have a2 : g i ≠ S := fun e => h ⟨i, hi, e⟩
        omega) h2
      omega
/-- what waits: apart, and states -/
def WD (f : Nat → Int32) (z S : Nat) : Prop := (∀ i, i < z → 0 ≤ (f i).toInt ∧ (f i).toInt < S) ∧ ∀ i j, i < j → j < z → f i ≠ f j
theorem WD.le {f : Nat → Int32} {z S : Nat} (h : WD f z S) : z ≤ S := pig S z (fun i => (f i).toInt.toNat) (fun i hi => by have := h.1 i hi; omega) (fun i j hij hj e => by
  have a1 := h.1 i (by omega)
  have a2 := h.1 j hj
  exact h.2 i j hij hj (l_eq.mpr (by omega)))
theorem WD.push {f : Nat → Int32} {z S : Nat} {x : Int32} (h : WD f z S) (h0 : 0 ≤ x.toInt) (h1 : x.toInt < S) (hn : ∀ t, t < z → f t ≠ x) : WD (upd f z x) (z + 1) S := by
  refine ⟨fun i hi => ?_, fun i j hij hj => ?_⟩
  · by_cases e : i = z
    · rw [e, upd_at]
      exact ⟨h0, h1⟩
    · rw [upd_ne e]
      exact h.1 i (by omega)
  · rw [upd_ne (show i ≠ z by omega)]
    by_cases e : j = z
    · rw [e, upd_at]
      exact hn i (by omega)
    · rw [upd_ne e]
      exact h.2 i j hij (by omega)
theorem le77 (fa1 : Nat → Int32) (na1 : Nat) (f3 : Nat → Int32) (S : Nat) (f24 f23 : Nat → Int32) (n11 : Nat) (v30 v31 v32 v33 : Int32) (hS : S ≤ 32) (h30 : 0 ≤ v30.toInt) (h30' : v30.toInt < S) (hW : WD f24 v33.toInt.toNat S) :
    ∀ (n : Nat) (v29 : Int32), (v33.toInt - v29.toInt).toNat < n → 0 ≤ v29.toInt → v29.toInt ≤ v33.toInt → (∀ t : Nat, (t : Int) < v29.toInt → f24 t ≠ v30) → VF (fun K : Int32 → Prop => wpl_X11_least_77 fa1 na1 f3 S f24 S f23 n11 v30 v31 v32 v33 K n v29) (fun u => 0 ≤ u.toInt ∧ u.toInt ≤ v33.toInt ∧ (u = v33 → ∀ t : Nat, (t : Int) < v33.toInt → f24 t ≠ v30)) := by
  intro n
  induction n with
  | zero => intro v29 hm; exact absurd hm (Nat.not_lt_zero _)
  | succ n ih =>
    intro v29 hm h0 h1 hd
    refine VF.ite (fun c => VF.mk v29 ⟨h0, h1, fun e t ht => hd t (by rw [e]; exact ht)⟩ (fun _ h => h)) (fun c => ?_)
    have c1 := nle c
    have e1 := inc_i c
    have w1 := hW.1 v29.toNatClampNeg (by rw [ii_cl]; omega)
    have hle := hW.le
    refine VF.side (vin (by omega)) (VF.side (vin w1) (VF.side (vin ⟨h30, h30'⟩) (VF.ite (fun _ => VF.mk v29 ⟨h0, h1, fun e => by rw [e] at c1; omega⟩ (fun _ h => h)) (fun q => ?_))))
    refine ih (v29 + 1) (by omega) (by omega) (by omega) (fun t ht => ?_)
    by_cases e : (t : Int) < v29.toInt
    · exact hd t e
    · have e2 : t = v29.toNatClampNeg := by rw [ii_cl]; omega
      rw [e2]
      intro e3
      rw [e3] at q
      exact q rfl
theorem le55 (fa1 : Nat → Int32) (S : Nat) (f3 : Nat → Int32) (v21 : Int32) (hS : S ≤ 32) (hf : ∀ k s : Nat, k < S → s < 3 → 0 ≤ (fa1 (4 * k + s)).toInt ∧ (fa1 (4 * k + s)).toInt < S) (h21 : 0 ≤ v21.toInt) :
    ∀ (n : Nat) (v20 v22 : Int32) (f24 f23 : Nat → Int32), (3 - v20.toInt).toNat < n → 0 ≤ v20.toInt → v20.toInt ≤ 3 → v21.toInt < v22.toInt → WD f24 v22.toInt.toNat S → OWp f23 v21.toInt v20.toInt v22.toInt →
      ∃ (u : Int32) (w g : Nat → Int32), v22.toInt ≤ u.toInt ∧ WD w u.toInt.toNat S ∧ OWp g v21.toInt 3 u.toInt ∧ ∀ K : Int32 → (Nat → Int32) → (Nat → Int32) → Prop, K u w g → wpl_X11_least_55 fa1 (4 * S) f3 S S (4 * S) v21 K n v20 v22 f24 f23 := by
  intro n
  induction n with
  | zero => intro v20 v22 f24 f23 hm; exact absurd hm (Nat.not_lt_zero _)
  | succ n ih =>
    intro v20 v22 f24 f23 hm h0 h3 hlt hW hO
    have hle := hW.le
    by_cases c : (3 : Int32) ≤ v20
    · have c1 := l_le.mp c
      rw [show (3 : Int32).toInt = 3 from rfl] at c1
      refine ⟨v22, f24, f23, Int.le_refl _, hW, ?_, fun K hK => ⟨fun _ => hK, fun q => absurd c q⟩⟩
      rwa [show v20.toInt = 3 by omega] at hO
    · have c1 := nle c
      have e1 := inc_i c
      rw [show (3 : Int32).toInt = 3 from rfl] at c1
      have w1 := hW.1 v21.toNatClampNeg (by rw [ii_cl]; omega)
      have hv : vp_in v21 S := vin (by omega)
      obtain ⟨-, x2, x3⟩ := fourk w1.1 w1.2 hS h0 (by omega : v20.toInt < 4)
      have x4 := hf (f24 v21.toNatClampNeg).toInt.toNat v20.toInt.toNat (by omega) (by omega)
      rw [← x2] at x4
      obtain ⟨u, ⟨u0, u1, u2⟩, ku⟩ := le77 fa1 (4 * S) f3 S f24 f23 (4 * S) (fa1 (((4 : Int32) * (f24 v21.toNatClampNeg)) + v20).toNatClampNeg) v20 v21 v22 hS x4.1 x4.2 hW _ 0 (Nat.lt_succ_self _) (by decide) (by rw [ii_0]; omega) (fun t ht => by rw [ii_0] at ht; omega)
      obtain ⟨kp, kq, kr⟩ := fourk h21 (S := S) (by omega) hS h0 (by omega : v20.toInt < 4)
      have kn : ((((4 : Int32) * v21 + v20).toNatClampNeg : Nat) : Int) = 4 * v21.toInt + v20.toInt := by rw [ii_cl, kp]; omega
      by_cases cs : u = v22
      · have hp := hW.push x4.1 x4.2 (fun t ht => u2 cs t (by omega))
        have hpl := hp.le
        have e22 : (v22 + (1 : Int32)).toInt = v22.toInt + 1 := ii_a rfl rfl (by omega) (by omega)
        have z22 : v22.toNatClampNeg = v22.toInt.toNat := ii_cl
        have zz : v22.toInt.toNat + 1 = (v22 + (1 : Int32)).toInt.toNat := by omega
        rw [zz, ← z22] at hp
        obtain ⟨u5, w5, g5, p1, p2, p3, p4⟩ := ih (v20 + 1) (v22 + 1) (upd f24 v22.toNatClampNeg (fa1 (((4 : Int32) * (f24 v21.toNatClampNeg)) + v20).toNatClampNeg)) (upd f23 ((4 : Int32) * v21 + v20).toNatClampNeg u) (by omega) (by omega) (by omega) (by omega) hp (by rw [e1]; exact hO.step h21 h0 c1 kn (by omega) u0 (by omega))
        exact ⟨u5, w5, g5, by omega, p2, p3, fun K hK => ⟨fun q => absurd q c, fun _ => ⟨hv, x3, _, ku _ (fun J hJ => ⟨fun q => absurd cs q, fun _ => ⟨vin (by omega), hJ _ _ ⟨kr, p4 K hK⟩⟩⟩)⟩⟩⟩
      · have hne2 : u.toInt ≠ v22.toInt := fun e => cs (l_eq.mpr e)
        obtain ⟨u5, w5, g5, p1, p2, p3, p4⟩ := ih (v20 + 1) v22 f24 (upd f23 ((4 : Int32) * v21 + v20).toNatClampNeg u) (by omega) (by omega) (by omega) (by omega) hW (by rw [e1]; exact hO.step h21 h0 c1 kn (by omega) u0 (by omega))
        exact ⟨u5, w5, g5, by omega, p2, p3, fun K hK => ⟨fun q => absurd q c, fun _ => ⟨hv, x3, _, ku _ (fun J hJ => ⟨fun _ => hJ _ _ ⟨kr, p4 K hK⟩, fun q => absurd q cs⟩)⟩⟩⟩
theorem le27 (fa1 : Nat → Int32) (S : Nat) (f3 : Nat → Int32) (hS : S ≤ 32) (hf : ∀ k s : Nat, k < S → s < 3 → 0 ≤ (fa1 (4 * k + s)).toInt ∧ (fa1 (4 * k + s)).toInt < S) (hg : ∀ k, k < S → (fa1 (4 * k + 3) = 0 ∨ fa1 (4 * k + 3) = 1)) :
    ∀ (n : Nat) (v9 v10 : Int32) (f12 f14 : Nat → Int32), (S - v9.toInt).toNat < n → 0 ≤ v9.toInt → v9.toInt ≤ v10.toInt → 1 ≤ v10.toInt → WD f14 v10.toInt.toNat S → OWp f12 (v9.toInt - 1) 3 v10.toInt →
      ∃ (u : Int32) (g : Nat → Int32), 1 ≤ u.toInt ∧ u.toInt ≤ S ∧ OWp g (u.toInt - 1) 3 u.toInt ∧ ∀ K : Int32 → (Nat → Int32) → Prop, K u g → wpl_X11_least_27 fa1 (4 * S) f3 S S (4 * S) K n v9 v10 f12 f14 := by
  intro n
  induction n with
  | zero => intro v9 v10 f12 f14 hm; exact absurd hm (Nat.not_lt_zero _)
  | succ n ih =>
    intro v9 v10 f12 f14 hm h0 hle h1 hW hO
    have hwl := hW.le
    by_cases c : v10 ≤ v9
    · have c1 := l_le.mp c
      refine ⟨v10, f12, h1, by omega, ?_, fun K hK => ⟨fun _ => hK, fun q => absurd c q⟩⟩
      rwa [show v9.toInt = v10.toInt by omega] at hO
    · have c1 := nle c
      have e1 := inc_i c
      have w1 := hW.1 v9.toNatClampNeg (by rw [ii_cl]; omega)
      obtain ⟨-, x2, x3⟩ := fourk w1.1 w1.2 hS (show 0 ≤ (3 : Int32).toInt by decide) (show (3 : Int32).toInt < 4 by decide)
      obtain ⟨kp, kq, kr⟩ := fourk h0 (S := S) (by omega) hS (show 0 ≤ (3 : Int32).toInt by decide) (show (3 : Int32).toInt < 4 by decide)
      have kn : ((((4 : Int32) * v9 + (3 : Int32)).toNatClampNeg : Nat) : Int) = 4 * v9.toInt + 3 := by rw [ii_cl, kp, show (3 : Int32).toInt = 3 from rfl]; omega
      have hv := hg (f14 v9.toNatClampNeg).toInt.toNat (by omega)
      rw [show 4 * (f14 v9.toNatClampNeg).toInt.toNat + 3 = ((4 : Int32) * (f14 v9.toNatClampNeg) + (3 : Int32)).toNatClampNeg by rw [x2]; rfl] at hv
      obtain ⟨u, w, g, p1, p2, p3, p4⟩ := le55 fa1 S f3 v9 hS hf h0 _ 0 v10 f14 (upd f12 ((4 : Int32) * v9 + (3 : Int32)).toNatClampNeg (fa1 ((4 : Int32) * (f14 v9.toNatClampNeg) + (3 : Int32)).toNatClampNeg)) (Nat.lt_succ_self _) (by decide) (by decide) c1 hW (by rw [ii_0]; exact hO.row h0 kn hv)
      obtain ⟨u2, g2, s1, s2, s3, s4⟩ := ih (v9 + 1) u g w (by omega) (by omega) (by omega) (by omega) p2 (by rw [e1, show v9.toInt + 1 - 1 = v9.toInt by omega]; exact p3)
      exact ⟨u2, g2, s1, s2, s3, fun K hK => ⟨fun q => absurd q c, fun _ => ⟨vin (by omega), x3, kr, _, p4 _ (s4 K hK)⟩⟩⟩
theorem lst (n : Nat) (fa1 : Nat → Int32) (h : OW n fa1) : VF (wp_X11_least n fa1) OWo := by
  obtain ⟨S, h1, hS, rfl, hf, hg⟩ := h.get
  obtain ⟨q1, q2, q3, q4⟩ := quart hS
  obtain ⟨f3, k3⟩ := al S fa1 hS hf
  have s1 : (nI S).toInt = (S : Int) := ii_nI (by omega)
  have s2 : (nI S).toNatClampNeg = S := by rw [ii_cl, s1]; omega
  obtain ⟨u, g, p1, p2, p3, p4⟩ := le27 fa1 S f3 hS hf hg _ 0 1 (fun _ => 0) (fun _ => 0) (Nat.lt_succ_self _) (by decide) (by decide) (by decide) ⟨fun i hi => by rw [show ((fun _ => 0 : Nat → Int32) i).toInt = 0 from rfl]; omega, fun i j hij hj => by rw [show (1 : Int32).toInt.toNat = 1 from rfl] at hj; omega⟩ ⟨fun k i hi hk => by rw [ii_0] at hk; omega, fun k hk => by rw [ii_0] at hk; omega⟩
  have k4 : ((4 : Int32) * u).toInt = 4 * u.toInt := ii_m rfl rfl (by omega) (by omega)
  obtain ⟨g2, hg2, k2⟩ := pt (4 * S) g ((4 : Int32) * u) (by omega) (by omega) (by omega)
  refine ⟨some (((4 : Int32) * u).toNatClampNeg, g2), fun n f e => ?_, fun K hK => k3 _ ⟨⟨by rw [l_lt, ii_0]; omega, by omega⟩, ⟨by rw [l_lt, ii_0]; omega, by omega⟩, ?_⟩⟩
  · cases e
    have e4 : ((4 : Int32) * u).toNatClampNeg = 4 * u.toInt.toNat := by rw [ii_cl, k4]; omega
    rw [e4]
    exact OWp.ow p1 (by omega) p3 (fun j hj => hg2 j (by omega))
  · rw [s2, q4]
    exact ⟨_, p4 _ (k2 _ hK)⟩
theorem tt63 (μ : TMem) (S : Nat) (f11 : Nat → Int32) (v23 : Int32) (v24 : Int64) (v25 : Int32) (hS : S ≤ 32) (h23 : 0 ≤ v23.toInt) (h23' : v23.toInt < S) :
    ∀ (n : Nat) (v22 : Int32) (f26 : Nat → Int64), (3 - v22.toInt).toNat < n → 0 ≤ v22.toInt → VF (fun K : (Nat → Int64) → Prop => wpl_X11_turnedTwice_63 μ (3 * S) f11 (4 * S) v23 v24 v25 K n v22 f26) (fun _ => True) := by
  intro n
  induction n with
  | zero => intro v22 f26 hm; exact absurd hm (Nat.not_lt_zero _)
  | succ n ih =>
    intro v22 f26 hm h0
    refine VF.ite (fun _ => VF.mk f26 trivial (fun _ h => h)) (fun c => ?_)
    have c1 := nle c
    have e1 := inc_i c
    rw [show (3 : Int32).toInt = 3 from rfl] at c1
    obtain ⟨-, -, a3⟩ := fourk h23 h23' hS h0 (by omega)
    have k : ((3 : Int32) * v23 + v22).toInt = 3 * v23.toInt + v22.toInt := ii_a (ii_m rfl rfl (by omega) (by omega)) rfl (by omega) (by omega)
    exact VF.side a3 (VF.side (vin (by omega)) (ih _ _ (by omega) (by omega)))
theorem tt54 (μ : TMem) (S : Nat) (f11 : Nat → Int32) (v17 : Int32) (hS : S ≤ 32) (h17 : v17.toInt = S) :
    ∀ (n : Nat) (v15 : Int32) (v16 : Int64) (f19 : Nat → Int64), (v17.toInt - v15.toInt).toNat < n → 0 ≤ v15.toInt → ∃ (r : Int64) (g : Nat → Int64), ∀ K : Int64 → (Nat → Int64) → Prop, K r g → wpl_X11_turnedTwice_54 μ (3 * S) f11 (4 * S) v17 K n v15 v16 f19 := by
  intro n
  induction n with
  | zero => intro v15 v16 f19 hm; exact absurd hm (Nat.not_lt_zero _)
  | succ n ih =>
    intro v15 v16 f19 hm h0
    by_cases c : v17 ≤ v15
    · exact ⟨v16, f19, fun K hK => ⟨fun _ => hK, fun q => absurd c q⟩⟩
    · have c1 := nle c
      have e1 := inc_i c
      obtain ⟨g, -, kg⟩ := tt63 μ S f11 v15 v16 v17 hS h0 (by omega) _ 0 f19 (Nat.lt_succ_self _) (by decide)
      obtain ⟨-, -, a3⟩ := fourk h0 (S := S) (by omega) hS (show 0 ≤ (3 : Int32).toInt by decide) (show (3 : Int32).toInt < 4 by decide)
      by_cases z : f11 ((4 : Int32) * v15 + (3 : Int32)).toNatClampNeg = (1 : Int32)
      · obtain ⟨r2, g2, k2⟩ := ih (v15 + 1) (v16 ||| ((1 : Int64) <<< (v15.toInt64 &&& 63))) g (by omega) (by omega)
        exact ⟨r2, g2, fun K hK => ⟨fun q => absurd q c, fun _ => ⟨_, kg _ ⟨a3, fun q => absurd z q, fun _ => k2 K hK⟩⟩⟩⟩
      · obtain ⟨r2, g2, k2⟩ := ih (v15 + 1) v16 g (by omega) (by omega)
        exact ⟨r2, g2, fun K hK => ⟨fun q => absurd q c, fun _ => ⟨_, kg _ ⟨a3, fun _ => k2 K hK, fun q => absurd q z⟩⟩⟩⟩
theorem opt_some {r : Option AI} {A : Prop} {B : Nat → (Nat → Int32) → Prop} {n : Nat} {f : Nat → Int32} (e : r = some (n, f)) (h : B n f) : (r = none → A) ∧ (∀ (n : Nat) (f : Nat → Int32), r = some (n, f) → B n f) := by
  refine ⟨fun e2 => (by rw [e] at e2; cases e2), fun n2 f2 e2 => ?_⟩
  rw [e] at e2
  cases e2
  exact h
theorem opt_none {r : Option AI} {A : Prop} {B : Nat → (Nat → Int32) → Prop} (e : r = none) (h : A) : (r = none → A) ∧ (∀ (n : Nat) (f : Nat → Int32), r = some (n, f) → B n f) := ⟨fun _ => h, fun n2 f2 e2 => (by rw [e] at e2; cases e2)⟩
theorem opt_same {r : Option AI} {Q : Option AI → Prop} (h : Q r) : (r = none → Q none) ∧ (∀ (n : Nat) (f : Nat → Int32), r = some (n, f) → Q (some (n, f))) := ⟨fun e => by rw [e] at h; exact h, fun n f e => by rw [e] at h; exact h⟩
theorem tt (μ : TMem) (a1 : Int32) (hI : Mny μ) (h5 : 0 ≤ a1.toInt) (h5' : a1.toInt ≤ 3) : VF (wp_X11_turnedTwice μ a1) OWo := by
  obtain ⟨g, kg⟩ := aa μ a1 h5 h5'
  have hm := hI.at h5 h5'
  obtain ⟨r, hr, kr⟩ := ow 21 g (μ 1 a1.toNatClampNeg) ((μ 2 a1.toNatClampNeg).toInt64) ((μ 3 a1.toNatClampNeg).toInt64) (1 : Int32) (by omega) (by omega)
  have hv : vp_in a1 4 := vin (by omega)
  rcases r with _ | ⟨n, f⟩
  · exact ⟨none, fun n f e => (by cases e), fun K hK => kg μ rfl _ ⟨hv, hv, hv, kr _ (opt_none rfl hK)⟩⟩
  · obtain ⟨S, h1, hS, rfl, hf, hgb⟩ := (hr n f rfl).get
    obtain ⟨q1, q2, q3, q4⟩ := quart hS
    have t1 : ((3 : Int32) * ((nI (4 * S)) / (4 : Int32))).toInt = 3 * (S : Int) := ii_m rfl q1 (by omega) (by omega)
    have t2 : ((3 : Int32) * ((nI (4 * S)) / (4 : Int32))).toNatClampNeg = 3 * S := by rw [ii_cl, t1]; omega
    obtain ⟨lst2, g2, k2⟩ := tt54 μ S f ((nI (4 * S)) / (4 : Int32)) hS q1 _ 0 0 (fun _ => 0) (Nat.lt_succ_self _) (by decide)
    obtain ⟨r3, hr3, k3⟩ := ow (3 * S) g2 ((nI (4 * S)) / (4 : Int32)) (1 : Int64) lst2 (1 : Int32) (by omega) (by omega)
    refine ⟨r3, hr3, fun K hK => kg μ rfl _ ⟨hv, hv, hv, kr _ (opt_some rfl ⟨⟨by rw [l_lt, ii_0]; omega, by omega⟩, ?_⟩)⟩⟩
    rw [t2]
    exact ⟨_, k2 _ (k3 _ (opt_same hK))⟩
theorem fnd (μ : TMem) (a1 a2 : Int32) (hI : Mny μ) (h5 : 0 ≤ a1.toInt) (h5' : a1.toInt ≤ 3) : VF (wp_X11_found μ a1 a2) OWo := by
  refine VF.itn (fun _ => VF.itn (fun _ => ?_) (fun _ => ?_)) (fun _ => ?_)
  · obtain ⟨r, hr, k⟩ := owm μ a1 hI h5 h5'
    rcases r with _ | ⟨n, f⟩
    · exact ⟨none, fun n f e => (by cases e), fun K hK => k μ (fun _ _ => rfl) _ (opt_none rfl (opt_none rfl hK))⟩
    · obtain ⟨r2, hr2, k2⟩ := lst n f (hr n f rfl)
      exact ⟨r2, hr2, fun K hK => k μ (fun _ _ => rfl) _ (opt_some rfl (k2 _ (opt_same hK)))⟩
  · obtain ⟨r, hr, k⟩ := tt μ a1 hI h5 h5'
    exact ⟨r, hr, fun K hK => k _ (opt_same hK)⟩
  · obtain ⟨r, hr, k⟩ := owm μ a1 hI h5 h5'
    exact ⟨r, hr, fun K hK => k μ (fun _ _ => rfl) _ (opt_same hK)⟩
end RTH
