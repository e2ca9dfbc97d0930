section RFO
theorem VF.Jg {α β : Type} {P : α → Prop} {G : β → (α → Prop) → Prop} {T : (β → Prop) → Prop} (a : β) (hT : ∀ J : β → Prop, J a → T J) (h : VF (G a) P) : VF (fun K => ∀ J : β → Prop, (∀ j, G j K → J j) → T J) P := by
  obtain ⟨r, h, g⟩ := h
  exact ⟨r, h, fun K hK J hJ => hT J (hJ a (g K hK))⟩
/-- how many words of each length: rows ahead of a, and of row a the states ahead of b -/
def WC (fa : Nat → Int32) (S : Nat) (g : Nat → Int32) (a b : Nat) : Prop := ∀ r st : Nat, st < S → (r < a ∨ (r = a ∧ st < b)) → 0 ≤ (g (r * S + st)).toInt ∧ (g (r * S + st)).toInt ≤ ((3 ^ r : Nat) : Int) ∧ (1 ≤ r → (g (r * S + st)).toInt = (g ((r - 1) * S + (fa (4 * st)).toInt.toNat)).toInt + (g ((r - 1) * S + (fa (4 * st + 1)).toInt.toNat)).toInt + (g ((r - 1) * S + (fa (4 * st + 2)).toInt.toNat)).toInt)
theorem rows_lt {r a S : Nat} (h : r < a) : r * S + S ≤ a * S := by
  have := Nat.mul_le_mul_right S (show r + 1 ≤ a from h)
  rw [Nat.succ_mul] at this
  exact this
theorem rows_ne {r a S st b : Nat} (hst : st < S) (hb : b < S) (h : ¬ (r = a ∧ st = b)) : r * S + st ≠ a * S + b := by
  intro e
  rcases Nat.lt_trichotomy r a with q | q | q
  · have := rows_lt (S := S) q
    omega
  · subst q
    exact h ⟨rfl, by omega⟩
  · have := rows_lt (S := S) q
    omega
theorem WC.step {fa g : Nat → Int32} {S a b : Nat} {j : Int32} (h : WC fa S g a b) (hb : b < S) (hf : ∀ k s : Nat, k < S → s < 3 → 0 ≤ (fa (4 * k + s)).toInt ∧ (fa (4 * k + s)).toInt < S) (h0 : 0 ≤ j.toInt) (h1 : j.toInt ≤ ((3 ^ a : Nat) : Int)) (h2 : 1 ≤ a → j.toInt = (g ((a - 1) * S + (fa (4 * b)).toInt.toNat)).toInt + (g ((a - 1) * S + (fa (4 * b + 1)).toInt.toNat)).toInt + (g ((a - 1) * S + (fa (4 * b + 2)).toInt.toNat)).toInt) : WC fa S (upd g (a * S + b) j) a (b + 1) := by
  intro r st hst hr
  have rd : ∀ k s : Nat, k < S → s < 3 → 1 ≤ r → upd g (a * S + b) j ((r - 1) * S + (fa (4 * k + s)).toInt.toNat) = g ((r - 1) * S + (fa (4 * k + s)).toInt.toNat) := fun k s hk hs h1r => by
    have := hf k s hk hs
    exact upd_ne (rows_ne (by omega) hb (by omega))
  by_cases e : r = a ∧ st = b
  · obtain ⟨rfl, rfl⟩ := e
    rw [upd_at]
    refine ⟨h0, h1, fun q => ?_⟩
    have a0 := rd st 0 hst (by omega) q
    have a1 := rd st 1 hst (by omega) q
    have a2 := rd st 2 hst (by omega) q
    rw [Nat.add_zero] at a0
    rw [a0, a1, a2]
    exact h2 q
  · rw [upd_ne (rows_ne hst hb e)]
    obtain ⟨x1, x2, x3⟩ := h r st hst (by omega)
    refine ⟨x1, x2, fun q => ?_⟩
    have a0 := rd st 0 hst (by omega) q
    have a1 := rd st 1 hst (by omega) q
    have a2 := rd st 2 hst (by omega) q
    rw [Nat.add_zero] at a0
    rw [a0, a1, a2]
    exact x3 q
theorem WC.row {fa g : Nat → Int32} {S a b : Nat} (h : WC fa S g a b) (hb : S ≤ b) : WC fa S g (a + 1) 0 := fun r st hst hr => h r st hst (by omega)
theorem idx {x y z : Int32} {a S b : Nat} (hx : x.toInt = a) (hy : y.toInt = S) (hz : z.toInt = b) (ha : a ≤ 12) (hS : S ≤ 32) (hb : b < S) : (x * y + z).toInt = ((a * S + b : Nat) : Int) ∧ (x * y + z).toNatClampNeg = a * S + b ∧ a * S ≤ 384 := by
  have hm : a * S ≤ 12 * 32 := Nat.mul_le_mul ha hS
  have hp : (x * y).toInt = (a : Int) * (S : Int) := ii_m hx hy (by rw [← Int.natCast_mul]; omega) (by rw [← Int.natCast_mul]; omega)
  have k : (x * y + z).toInt = ((a * S + b : Nat) : Int) := by
    rw [ii_a hp hz (by rw [← Int.natCast_mul]; omega) (by rw [← Int.natCast_mul]; omega), Int.natCast_add, Int.natCast_mul]
  exact ⟨k, by rw [ii_cl, k]; omega, by omega⟩
theorem wy25 (fa1 : Nat → Int32) (S L a : Nat) (v12 v13 v14 : Int32) (h1 : 1 ≤ S) (hS : S ≤ 32) (hL : L ≤ 12) (ha : a ≤ L) (h12 : v12.toInt = a) (h13 : v13.toInt = S) (hf : ∀ k s : Nat, k < S → s < 3 → 0 ≤ (fa1 (4 * k + s)).toInt ∧ (fa1 (4 * k + s)).toInt < S) (hg : ∀ k, k < S → (fa1 (4 * k + 3) = 0 ∨ fa1 (4 * k + 3) = 1)) :
    ∀ (n : Nat) (v11 : Int32) (f15 : Nat → Int32), (v13.toInt - v11.toInt).toNat < n → 0 ≤ v11.toInt → WC fa1 S f15 a v11.toInt.toNat → VF (fun K : (Nat → Int32) → Prop => wpl_X11_ways_25 fa1 (4 * S) (S * (L + 1)) v12 v13 v14 K n v11 f15) (fun g => WC fa1 S g (a + 1) 0) := by
  intro n
  induction n with
  | zero => intro v11 f15 hm; exact absurd hm (Nat.not_lt_zero _)
  | succ n ih =>
    intro v11 f15 hm h0 hW
    refine VF.ite (fun c => VF.mk f15 (hW.row (by have := l_le.mp c; omega)) (fun _ h => h)) (fun c => ?_)
    have c1 := nle c
    have e1 := inc_i c
    obtain ⟨p1, p2, p3⟩ := fourk h0 (S := S) (by omega) hS (show 0 ≤ (3 : Int32).toInt by decide) (show (3 : Int32).toInt < 4 by decide)
    obtain ⟨i1, i2, i3⟩ := idx (z := v11) (b := v11.toInt.toNat) h12 h13 (by omega) (by omega) hS (by omega)
    have hrow := rows_lt (S := S) (show a < L + 1 by omega)
    have hcm : S * (L + 1) = (L + 1) * S := Nat.mul_comm _ _
    have hin : vp_in (v12 * v13 + v11) (S * (L + 1)) := vin (by rw [i1, hcm]; omega)
    have e11 : v11.toInt.toNat + 1 = (v11 + (1 : Int32)).toInt.toNat := by omega
    refine VF.side p3 ?_
    by_cases z : v12 ≤ 0
    · refine VF.Jg (fa1 ((4 : Int32) * v11 + (3 : Int32)).toNatClampNeg) (fun J hJ => ⟨fun _ => hJ, fun q => absurd z q⟩) (VF.side hin ?_)
      have z1 := l_le.mp z
      rw [ii_0] at z1
      have a0 : a = 0 := by omega
      refine ih (v11 + 1) _ (by omega) (by omega) ?_
      rw [i2, ← e11]
      have hv := hg v11.toInt.toNat (by omega)
      rw [show 4 * v11.toInt.toNat + 3 = ((4 : Int32) * v11 + (3 : Int32)).toNatClampNeg by rw [p2]; rfl] at hv
      refine hW.step (by omega) hf ?_ ?_ (fun q => by omega)
      · rcases hv with e | e <;> rw [e] <;> decide
      · rw [a0]
        rcases hv with e | e <;> rw [e] <;> decide
    · have z1 : 0 < v12.toInt := by
        rw [l_le, ii_0] at z
        omega
      have b1 : (v12 - (1 : Int32)).toInt = ((a - 1 : Nat) : Int) := by
        have : (v12 - (1 : Int32)).toInt = v12.toInt - 1 := ii_s rfl rfl (by omega) (by omega)
        omega
      have pz : ((4 : Int32) * v11).toInt = 4 * v11.toInt := ii_m rfl rfl (by omega) (by omega)
      have pz2 : ((4 : Int32) * v11).toNatClampNeg = 4 * v11.toInt.toNat := by rw [ii_cl, pz]; omega
      obtain ⟨o1, o2, o3⟩ := fourk h0 (S := S) (by omega) hS (show 0 ≤ (1 : Int32).toInt by decide) (show (1 : Int32).toInt < 4 by decide)
      obtain ⟨t1, t2, t3⟩ := fourk h0 (S := S) (by omega) hS (show 0 ≤ (2 : Int32).toInt by decide) (show (2 : Int32).toInt < 4 by decide)
      rw [show (1 : Int32).toInt.toNat = 1 from rfl] at o2
      rw [show (2 : Int32).toInt.toNat = 2 from rfl] at t2
      have x0 := hf v11.toInt.toNat 0 (by omega) (by omega)
      have x1 := hf v11.toInt.toNat 1 (by omega) (by omega)
      have x2 := hf v11.toInt.toNat 2 (by omega) (by omega)
      rw [Nat.add_zero, ← pz2] at x0
      rw [← o2] at x1
      rw [← t2] at x2
      obtain ⟨u1, u2, u3⟩ := idx (z := fa1 ((4 : Int32) * v11).toNatClampNeg) (b := (fa1 ((4 : Int32) * v11).toNatClampNeg).toInt.toNat) b1 h13 (by omega) (by omega) hS (by omega)
      obtain ⟨w1, w2, w3⟩ := idx (z := fa1 ((4 : Int32) * v11 + (1 : Int32)).toNatClampNeg) (b := (fa1 ((4 : Int32) * v11 + (1 : Int32)).toNatClampNeg).toInt.toNat) b1 h13 (by omega) (by omega) hS (by omega)
      obtain ⟨y1, y2, y3⟩ := idx (z := fa1 ((4 : Int32) * v11 + (2 : Int32)).toNatClampNeg) (b := (fa1 ((4 : Int32) * v11 + (2 : Int32)).toNatClampNeg).toInt.toNat) b1 h13 (by omega) (by omega) hS (by omega)
      have hr1 := rows_lt (S := S) (show a - 1 < L + 1 by omega)
      have g0 := hW (a - 1) (fa1 ((4 : Int32) * v11).toNatClampNeg).toInt.toNat (by omega) (by omega)
      have g1 := hW (a - 1) (fa1 ((4 : Int32) * v11 + (1 : Int32)).toNatClampNeg).toInt.toNat (by omega) (by omega)
      have g2 := hW (a - 1) (fa1 ((4 : Int32) * v11 + (2 : Int32)).toNatClampNeg).toInt.toNat (by omega) (by omega)
      rw [← u2] at g0
      rw [← w2] at g1
      rw [← y2] at g2
      have hpow : 3 ^ a = 3 ^ (a - 1) * 3 := by
        rw [← Nat.pow_succ]
        congr 1
        omega
      have hpb : 3 ^ (a - 1) ≤ 3 ^ 11 := Nat.pow_le_pow_right (by decide) (by omega)
      have hp11 : 3 ^ 11 = 177147 := by decide
      have sm : ((f15 ((v12 - (1 : Int32)) * v13 + fa1 ((4 : Int32) * v11).toNatClampNeg).toNatClampNeg + f15 ((v12 - (1 : Int32)) * v13 + fa1 ((4 : Int32) * v11 + (1 : Int32)).toNatClampNeg).toNatClampNeg) + f15 ((v12 - (1 : Int32)) * v13 + fa1 ((4 : Int32) * v11 + (2 : Int32)).toNatClampNeg).toNatClampNeg).toInt = _ + _ + _ := ii_a (ii_a rfl rfl (by omega) (by omega)) rfl (by omega) (by omega)
      refine VF.Jg _ (fun J hJ => ⟨fun q => absurd q z, fun _ => ⟨vin (by omega), vin (by rw [u1, hcm]; omega), o3, vin (by rw [w1, hcm]; omega), t3, vin (by rw [y1, hcm]; omega), hJ⟩⟩) (VF.side hin ?_)
      refine ih (v11 + 1) _ (by omega) (by omega) ?_
      rw [i2, ← e11]
      refine hW.step (by omega) hf ?_ ?_ (fun q => ?_)
      · rw [sm]
        omega
      · rw [sm, hpow]
        omega
      · rw [sm, u2, w2, y2, pz2, o2, t2]
theorem wy16 (fa1 : Nat → Int32) (S L : Nat) (v5 v6 : Int32) (h1 : 1 ≤ S) (hS : S ≤ 32) (hL : L ≤ 12) (h5 : v5.toInt = S) (h6 : v6.toInt = L) (hf : ∀ k s : Nat, k < S → s < 3 → 0 ≤ (fa1 (4 * k + s)).toInt ∧ (fa1 (4 * k + s)).toInt < S) (hg : ∀ k, k < S → (fa1 (4 * k + 3) = 0 ∨ fa1 (4 * k + 3) = 1)) :
    ∀ (n : Nat) (v4 : Int32) (f8 : Nat → Int32), (v6.toInt + 1 - v4.toInt).toNat < n → 0 ≤ v4.toInt → v4.toInt ≤ L + 1 → WC fa1 S f8 v4.toInt.toNat 0 → ∃ g : Nat → Int32, WC fa1 S g (L + 1) 0 ∧ ∀ Q : Nat → (Nat → Int32) → Prop, Q (S * (L + 1)) g → wpl_X11_ways_16 fa1 (4 * S) (S * (L + 1)) v5 v6 Q n v4 f8 := by
  intro n
  induction n with
  | zero => intro v4 f8 hm; exact absurd hm (Nat.not_lt_zero _)
  | succ n ih =>
    intro v4 f8 hm h0 hle hW
    by_cases c : v6 < v4
    · have c1 := l_lt.mp c
      exact ⟨f8, by rwa [show v4.toInt.toNat = L + 1 by omega] at hW, fun Q hQ => ⟨fun _ => hQ, fun q => absurd c q⟩⟩
    · have c1 : v4.toInt ≤ L := by
        rw [l_lt] at c
        omega
      have e1 : (v4 + (1 : Int32)).toInt = v4.toInt + 1 := ii_a rfl rfl (by omega) (by omega)
      obtain ⟨g, hgw, kg⟩ := wy25 fa1 S L v4.toInt.toNat v4 v5 v6 h1 hS hL (by omega) (by omega) h5 hf hg _ 0 f8 (Nat.lt_succ_self _) (by decide) hW
      rw [show v4.toInt.toNat + 1 = (v4 + (1 : Int32)).toInt.toNat by omega] at hgw
      obtain ⟨g2, hg2, k2⟩ := ih (v4 + 1) g (by omega) (by omega) (by omega) hgw
      exact ⟨g2, hg2, fun Q hQ => ⟨fun q => absurd q c, fun _ => ⟨_, kg _ (k2 Q hQ)⟩⟩⟩
theorem wy (S L : Nat) (fa1 : Nat → Int32) (a2 : Int32) (h1 : 1 ≤ S) (hS : S ≤ 32) (hL : L ≤ 12) (h2 : a2.toInt = L) (hf : ∀ k s : Nat, k < S → s < 3 → 0 ≤ (fa1 (4 * k + s)).toInt ∧ (fa1 (4 * k + s)).toInt < S) (hg : ∀ k, k < S → (fa1 (4 * k + 3) = 0 ∨ fa1 (4 * k + 3) = 1)) : ∃ g : Nat → Int32, WC fa1 S g (L + 1) 0 ∧ ∀ Q : Nat → (Nat → Int32) → Prop, Q (S * (L + 1)) g → wp_X11_ways (4 * S) fa1 a2 Q := by
  obtain ⟨q1, q2, q3, q4⟩ := quart hS
  obtain ⟨g, hw, k⟩ := wy16 fa1 S L ((nI (4 * S)) / (4 : Int32)) a2 h1 hS hL q1 h2 hf hg _ 0 (fun _ => 0) (Nat.lt_succ_self _) (by decide) (by rw [ii_0]; omega) (fun r st _ hr => by rw [show (0 : Int32).toInt.toNat = 0 from rfl] at hr; omega)
  have ea : (a2 + (1 : Int32)).toInt = ((L + 1 : Nat) : Int) := by
    have : (a2 + (1 : Int32)).toInt = a2.toInt + 1 := ii_a rfl rfl (by omega) (by omega)
    omega
  have hm : S * (L + 1) ≤ 32 * 13 := Nat.mul_le_mul hS (by omega)
  have et : (((nI (4 * S)) / (4 : Int32)) * (a2 + (1 : Int32))).toInt = (S : Int) * ((L + 1 : Nat) : Int) := ii_m q1 ea (by rw [← Int.natCast_mul]; omega) (by rw [← Int.natCast_mul]; omega)
  rw [← Int.natCast_mul] at et
  have ec : (((nI (4 * S)) / (4 : Int32)) * (a2 + (1 : Int32))).toNatClampNeg = S * (L + 1) := by rw [ii_cl, et]; omega
  refine ⟨g, hw, fun Q hQ => ⟨⟨by rw [l_lt, ii_0]; omega, by omega⟩, ?_⟩⟩
  rw [ec]
  exact ⟨_, k Q hQ⟩
/-- a pair's number -/
def PR (S1 S2 : Nat) (p : Int32) : Prop := 0 ≤ p.toInt ∧ p.toInt / 32 < S1 ∧ p.toInt % 32 < S2
theorem PR.parts {S1 S2 : Nat} {p : Int32} (h : PR S1 S2 p) : (p / (32 : Int32)).toInt = p.toInt / 32 ∧ (p - p / (32 : Int32) * (32 : Int32)).toInt = p.toInt % 32 := by
  have h1 : (p / (32 : Int32)).toInt = p.toInt / 32 := ii_d rfl rfl h.1 (by decide)
  have h2 := p.toInt_lt
  have h3 := h.1
  refine ⟨h1, ?_⟩
  have h4 : (p - p / (32 : Int32) * (32 : Int32)).toInt = p.toInt - p.toInt / 32 * 32 := ii_s rfl (ii_m h1 rfl (by omega) (by omega)) (by omega) (by omega)
  omega
theorem PR.mk {S1 S2 : Nat} {x y : Int32} (h1 : S1 ≤ 32) (h2 : S2 ≤ 32) (hx : 0 ≤ x.toInt ∧ x.toInt < S1) (hy : 0 ≤ y.toInt ∧ y.toInt < S2) : (x * (32 : Int32) + y).toInt = x.toInt * 32 + y.toInt ∧ PR S1 S2 (x * (32 : Int32) + y) := by
  have k : (x * (32 : Int32) + y).toInt = x.toInt * 32 + y.toInt := ii_a (ii_m rfl rfl (by omega) (by omega)) rfl (by omega) (by omega)
  exact ⟨k, by omega, by omega, by omega⟩
theorem iu (S1 S2 : Nat) (fa1 fa2 : Nat → Int32) (a3 : Int32) (h1 : S1 ≤ 32) (h2 : S2 ≤ 32) (h : PR S1 S2 a3) : VF (wp_X11_isUnlike (4 * S1) fa1 (4 * S2) fa2 a3) isB := by
  obtain ⟨e1, e2⟩ := h.parts
  obtain ⟨g1, g2, g3⟩ := h
  obtain ⟨-, -, x3⟩ := fourk (x := a3 / (32 : Int32)) (S := S1) (by omega) (by omega) h1 (show 0 ≤ (3 : Int32).toInt by decide) (show (3 : Int32).toInt < 4 by decide)
  obtain ⟨-, -, y3⟩ := fourk (x := a3 - a3 / (32 : Int32) * (32 : Int32)) (S := S2) (by omega) (by omega) h2 (show 0 ≤ (3 : Int32).toInt by decide) (show (3 : Int32).toInt < 4 by decide)
  exact VF.side x3 (VF.side y3 (VF.ite (fun _ => VF.mk 0 (Or.inl rfl) (fun _ h => h)) (fun _ => VF.mk 1 (Or.inr rfl) (fun _ h => h))))
end RFO
