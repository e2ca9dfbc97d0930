section RMA
/-- how many states, of each machine of the reference's -/
def RI (μ : TMem) : Prop := ∀ i : Nat, i < 4 → 1 ≤ (μ 1 i).toInt ∧ (μ 1 i).toInt ≤ 7
def FQ (μ μ9 : TMem) : Prop := RI μ9 ∧ μ9 0 6 = μ 0 6
def M1 (a : Int32) : Prop := 0 ≤ a.toInt ∧ a.toInt ≤ 3
theorem FQ.rf {μ : TMem} (h : RI μ) : FQ μ μ := ⟨h, rfl⟩
theorem FQ.trans {a b c : TMem} (h1 : FQ a b) (h2 : FQ b c) : FQ a c := ⟨h2.1, h2.2.trans h1.2⟩
theorem FQ.st {a b : TMem} {k i : Nat} {v : Int32} (h : FQ a b) (hk : k ≠ 1) (h6 : k ≠ 0 ∨ i ≠ 6) : FQ a (tms b k i v) := by
  refine ⟨fun j hj => ?_, ?_⟩
  · have := h.1 j hj
    simpa [tms, Ne.symm hk] using this
  · rw [← h.2]
    by_cases e : 0 = k
    · subst e
      have h7 : 6 ≠ i := fun z => h6.elim (fun w => w rfl) (fun w => w z.symm)
      simp [tms, upd, h7]
    · simp [tms, e]
theorem FQ.m {a b : TMem} {i : Nat} {v : Int32} (h : FQ a b) (hv : 1 ≤ v.toInt ∧ v.toInt ≤ 7) : FQ a (tms b 1 i v) := by
  refine ⟨fun j hj => ?_, ?_⟩
  · have := h.1 j hj
    by_cases e : j = i
    · subst e
      simpa [tms, upd] using hv
    · simpa [tms, upd, e] using this
  · rw [← h.2]
    simp [tms]
theorem M1.in4 {a : Int32} (h : M1 a) : vp_in a 4 := vin (by have := h.1; have := h.2; omega)
theorem M1.cl {a : Int32} (h : M1 a) : a.toNatClampNeg < 4 := by
  have := h.1
  have := h.2
  rw [ii_cl]
  omega
theorem M1.ri {μ : TMem} {a : Int32} (h : M1 a) (hI : RI μ) : 1 ≤ (μ 1 a.toNatClampNeg).toInt ∧ (μ 1 a.toNatClampNeg).toInt ≤ 7 := hI _ h.cl
theorem in84 {x : Int32} (h0 : 0 ≤ x.toInt) (h : x.toInt < 84) : vp_in x 84 := vin (by omega)
variable {Q : Int32 → Prop} {Qm : Int32 → TMem → Prop} {Qv : TMem → Prop} {μ : TMem}
theorem t_key {a0 a1 a2 : Int32} (h0 : M1 a0) (h1 : 0 ≤ a1.toInt ∧ a1.toInt ≤ 6) (h2 : 0 ≤ a2.toInt ∧ a2.toInt ≤ 2) (h : ∀ r : Int32, r.toInt = 21 * a0.toInt + 3 * a1.toInt + a2.toInt → Q r) : wp_X11_key a0 a1 a2 Q := by
  obtain ⟨h3, h4⟩ := h0
  have k : (((a0 * (7 : Int32)) + a1) * (3 : Int32) + a2).toInt = (a0.toInt * 7 + a1.toInt) * 3 + a2.toInt := ii_a (ii_m (ii_a (ii_m rfl rfl (by omega) (by omega)) rfl (by omega) (by omega)) rfl (by omega) (by omega)) rfl (by omega) (by omega)
  exact h _ (k.trans (by omega))
theorem t_isIn {a0 a1 a2 : Int32} (h : ∀ r : Int32, isB r → (r ≠ 0 → a1.toInt ≤ a0.toInt ∧ a0.toInt ≤ a2.toInt) → Q r) : wp_X11_isIn a0 a1 a2 Q := by
  refine ⟨fun _ => h _ (Or.inl rfl) (fun z => absurd rfl z), fun c1 => ⟨fun _ => h _ (Or.inl rfl) (fun z => absurd rfl z), fun c2 => h _ (Or.inr rfl) (fun _ => ?_)⟩⟩
  rw [l_lt] at c1 c2
  omega
theorem t_isOne {a0 : Int32} (h : ∀ r : Int32, isB r → (r ≠ 0 → M1 a0) → Q r) : wp_X11_isOne a0 Q :=
  t_isIn (fun r b hr => ⟨b, h r b hr⟩)
theorem t_isThrown {a1 a2 : Int32} (hI : RI μ) (h : ∀ (r : Int32) (μ9 : TMem), isB r → FQ μ μ9 → (r = 0 → a1 ≠ 0 ∧ a2 ≠ 0) → Qm r μ9) : wp_X11_isThrown μ a1 a2 Qm := by
  have hf : ∀ j, FQ μ (tms μ 0 7 j) := fun j => (FQ.rf hI).st (by decide) (Or.inr (by decide))
  have bad : ∀ j : Int32, ¬ j ≤ 0 → (((tms μ 0 7 j) 0 7) ≤ 0 → Qm (0 : Int32) (tms μ 0 7 j)) ∧ (¬ ((tms μ 0 7 j) 0 7) ≤ 0 → Qm (1 : Int32) (tms μ 0 7 j)) := fun j hj => by
    rw [show (tms μ 0 7 j) 0 7 = j by simp [tms, upd]]
    exact ⟨fun z => absurd z hj, fun _ => h _ _ (Or.inr rfl) (hf j) (fun z => absurd z (by decide))⟩
  intro J hJ
  refine ⟨fun c1 => ⟨fun c2 => hJ _ ?_, fun _ => hJ _ (bad _ (by decide))⟩, fun _ => hJ _ (bad _ (by decide))⟩
  rw [show (tms μ 0 7 (0 : Int32)) 0 7 = 0 by simp [tms, upd]]
  exact ⟨fun _ => h _ _ (Or.inl rfl) (hf _) (fun _ => ⟨c1, c2⟩), fun z => absurd (by decide) z⟩
theorem t_isCrowded {na1 : Nat} {fa1 : Nat → Int32} {a2 : Int32} (hI : RI μ) (h : ∀ μ9 : TMem, FQ μ μ9 → Qm 0 μ9) : wp_X11_isCrowded μ na1 fa1 a2 Qm := h _ ((FQ.rf hI).st (by decide) (Or.inr (by decide)))
theorem t_isCrowded_n {a2 : Int32} (hI : RI μ) (h : ∀ μ9 : TMem, FQ μ μ9 → Qm 1 μ9) : wp_X11_isCrowded_n μ a2 Qm := h _ ((FQ.rf hI).st (by decide) (Or.inr (by decide)))
theorem t_isState {a1 a2 : Int32} (hm : M1 a1) (hI : RI μ) (h : ∀ r : Int32, isB r → (r ≠ 0 → 0 ≤ a2.toInt ∧ a2.toInt ≤ 6) → Q r) : wp_X11_isState μ a1 a2 Q := by
  refine ⟨hm.in4, t_isIn (fun r b hr => ⟨b, h r b (fun z => ?_)⟩)⟩
  have h1 := hr z
  have h2 := hm.ri hI
  have h3 : ((μ 1 a1.toNatClampNeg) - (1 : Int32)).toInt = (μ 1 a1.toNatClampNeg).toInt - 1 := ii_s rfl rfl (by omega) (by omega)
  rw [ii_0] at h1
  omega
theorem t_did {a1 : Int32} (hI : RI μ) (h : ∀ (r : Int32) (μ9 : TMem), FQ μ μ9 → Qm r μ9) : wp_X11_did μ a1 Qm := h _ _ ((FQ.rf hI).st (by decide) (Or.inr (by decide)))
theorem t_refuse (hI : RI μ) (h : ∀ (r : Int32) (μ9 : TMem), FQ μ μ9 → Qm r μ9) : wp_X11_refuse μ Qm := h _ _ ((FQ.rf hI).st (by decide) (Or.inr (by decide)))
theorem t_bits {a : Int32} (h : ∀ r : Int32, Q r) : wp_J6_bitCount_0f7a4 a Q := h _
theorem t_arrowsOf {a1 : Int32} (hm : M1 a1) (h : ∀ r : Int32, Q r) : wp_X11_arrowsOf μ a1 Q := by
  obtain ⟨h1, h2⟩ := hm
  have L : ∀ (n : Nat) (v3 v4 : Int32), (21 * a1.toInt + 21 - v3.toInt).toNat < n → 0 ≤ v3.toInt → wpl_X11_arrowsOf_9 μ a1 Q n v3 v4 := by
    intro n
    induction n with
    | zero => intro v3 v4 hk; exact absurd hk (Nat.not_lt_zero _)
    | succ n ih =>
      intro v3 v4 hk h0
      refine t_key ⟨h1, h2⟩ ⟨by decide, by decide⟩ ⟨by decide, by decide⟩ (fun r6 hr => ?_)
      rw [ii_0] at hr
      have k : (r6 + (21 : Int32)).toInt = 21 * a1.toInt + 21 := by
        have : (r6 + (21 : Int32)).toInt = r6.toInt + 21 := ii_a rfl rfl (by omega) (by omega)
        omega
      refine ⟨fun _ => h _, fun c => ?_⟩
      have c1 := nle c
      have e1 := inc_i c
      exact ⟨in84 h0 (by omega), t_bits (fun r9 => ih _ _ (by omega) (by omega))⟩
  exact t_key ⟨h1, h2⟩ ⟨by decide, by decide⟩ ⟨by decide, by decide⟩ (fun r1 hr => ⟨_, L _ r1 0 (Nat.lt_succ_self _) (by rw [ii_0] at hr; omega)⟩)
theorem t_isPlain {a1 : Int32} (hm : M1 a1) (hI : RI μ) (h : ∀ r : Int32, isB r → Q r) : wp_X11_isPlain μ a1 Q := by
  have hr := hm.ri hI
  have b1 : ∀ v : Int32, isB v → isB (v &&& (0 : Int32)) := fun v hv => by rcases hv with rfl | rfl <;> exact Or.inl rfl
  have b2 : ∀ v : Int32, isB v → isB (v &&& (1 : Int32)) := fun v hv => by rcases hv with rfl | rfl <;> [exact Or.inl rfl; exact Or.inr rfl]
  have L34 : ∀ (v14 : Int32) (K : Int32 → Prop), 0 ≤ v14.toInt → v14.toInt ≤ 6 → (∀ u, isB u → K u) → ∀ (n : Nat) (v13 v15 : Int32), ((3 : Int32).toInt - v13.toInt).toNat < n → 0 ≤ v13.toInt → isB v15 → wpl_X11_isPlain_34 μ v14 a1 K n v13 v15 := by
    intro v14 K h1 h2 hK n
    induction n with
    | zero => intro v13 v15 hk; exact absurd hk (Nat.not_lt_zero _)
    | succ n ih =>
      intro v13 v15 hk h0 hb
      refine ⟨fun _ => hK _ hb, fun c => ?_⟩
      have c1 := nle c
      have e1 := inc_i c
      rw [show (3 : Int32).toInt = 3 from rfl] at c1 hk
      refine t_key hm ⟨h1, h2⟩ ⟨h0, by omega⟩ (fun r18 hr18 => ⟨in84 (by have := hm.1; omega) (by have := hm.2; omega), t_bits (fun r20 => ⟨fun _ => ih _ _ (by rw [show (3 : Int32).toInt = 3 from rfl]; omega) (by omega) (b1 _ hb), fun _ => ih _ _ (by rw [show (3 : Int32).toInt = 3 from rfl]; omega) (by omega) (b2 _ hb)⟩)⟩)
  have L21 : ∀ (n : Nat) (v6 v7 : Int32), ((μ 1 a1.toNatClampNeg).toInt - v6.toInt).toNat < n → 0 ≤ v6.toInt → isB v7 → wpl_X11_isPlain_21 μ a1 Q n v6 v7 := by
    intro n
    induction n with
    | zero => intro v6 v7 hk; exact absurd hk (Nat.not_lt_zero _)
    | succ n ih =>
      intro v6 v7 hk h0 hb
      refine ⟨hm.in4, fun _ => h _ hb, fun c => ?_⟩
      have c1 := nle c
      have e1 := inc_i c
      exact ⟨_, L34 v6 _ h0 (by omega) (fun u hu => ih _ _ (by omega) (by omega) hu) _ 0 v7 (Nat.lt_succ_self _) (by decide) hb⟩
  refine ⟨hm.in4, t_bits (fun r2 => ?_)⟩
  intro J hJ
  exact ⟨fun _ => hJ _ ⟨_, L21 _ 0 _ (Nat.lt_succ_self _) (by decide) (Or.inl rfl)⟩, fun _ => hJ _ ⟨_, L21 _ 0 _ (Nat.lt_succ_self _) (by decide) (Or.inr rfl)⟩⟩
theorem t_clear {a1 a2 : Int32} (hm : M1 a1) (hI : RI μ) (ha : 1 ≤ a2.toInt ∧ a2.toInt ≤ 7) (h : ∀ μ9 : TMem, FQ μ μ9 → (∀ j, j ≠ a1.toNatClampNeg → μ9 1 j = μ 1 j) → μ9 1 a1.toNatClampNeg = a2 → Qv μ9) : wp_X11_clear μ a1 a2 Qv := by
  have L : ∀ (μ0 : TMem), FQ μ μ0 → (∀ j, j ≠ a1.toNatClampNeg → μ0 1 j = μ 1 j) → μ0 1 a1.toNatClampNeg = a2 → ∀ (n : Nat) (v5 : Int32) (μ7 : TMem), ((21 : Int32).toInt - v5.toInt).toNat < n → 0 ≤ v5.toInt → FQ μ μ7 → μ7 1 = μ0 1 → wpl_X11_clear_23 a1 Qv n v5 μ7 := by
    intro μ0 f0 g1 g2 n
    induction n with
    | zero => intro v5 μ7 hk; exact absurd hk (Nat.not_lt_zero _)
    | succ n ih =>
      intro v5 μ7 hk h0 f7 e7
      refine ⟨fun _ => h _ f7 (fun j hj => by rw [e7]; exact g1 j hj) (by rw [e7]; exact g2), fun c => ?_⟩
      have c1 := nle c
      have e1 := inc_i c
      rw [show (21 : Int32).toInt = 21 from rfl] at c1 hk
      refine t_key hm ⟨by decide, by decide⟩ ⟨by decide, by decide⟩ (fun r9 hr => ?_)
      rw [ii_0] at hr
      have := hm.1
      have := hm.2
      have k : (r9 + v5).toInt = r9.toInt + v5.toInt := ii_a rfl rfl (by omega) (by omega)
      exact ⟨in84 (by omega) (by omega), ih _ _ (by rw [show (21 : Int32).toInt = 21 from rfl]; omega) (by omega) (f7.st (by decide) (Or.inl (by decide))) (by rw [← e7]; rfl)⟩
  refine ⟨hm.in4, hm.in4, hm.in4, _, L _ ((((FQ.rf hI).m ha).st (by decide) (Or.inl (by decide))).st (by decide) (Or.inl (by decide))) (fun j hj => by simp [tms, upd, hj]) (by simp [tms, upd]) _ 0 _ (Nat.lt_succ_self _) (by decide) ((((FQ.rf hI).m ha).st (by decide) (Or.inl (by decide))).st (by decide) (Or.inl (by decide))) rfl⟩
theorem t_begin {a1 a2 : Int32} (hI : RI μ) (h : ∀ (r : Int32) (μ9 : TMem), FQ μ μ9 → Qm r μ9) : wp_X11_begin μ a1 a2 Qm := by
  refine t_isOne (fun r1 b1 h1 => t_isIn (fun r2 b2 h2 => t_isThrown hI (fun r4 μ3 b4 f3 h4 => ⟨fun c => ?_, fun _ => h _ _ f3⟩)))
  obtain ⟨c1, c2⟩ := h4 c
  have hm := h1 c1
  have ha := h2 c2
  exact t_arrowsOf hm (fun r8 => t_clear hm f3.1 ha (fun μ9 f9 _ _ => t_did f9.1 (fun r11 μ10 f10 => h _ _ ((f3.trans f9).trans f10))))
theorem t_isNoArrow {a1 a2 a3 a4 : Int32} (hI : RI μ) (h : ∀ (r : Int32) (μ9 : TMem), isB r → FQ μ μ9 → (r = 0 → M1 a1 ∧ (0 ≤ a2.toInt ∧ a2.toInt ≤ 6) ∧ (0 ≤ a4.toInt ∧ a4.toInt ≤ 6) ∧ (0 ≤ a3.toInt ∧ a3.toInt ≤ 2)) → Qm r μ9) : wp_X11_isNoArrow μ a1 a2 a3 a4 Qm := by
  refine t_isOne (fun r1 b1 h1 => ?_)
  intro J hJ
  have key : ∀ j3 : Int32, (j3 ≠ 0 → M1 a1 ∧ (0 ≤ a2.toInt ∧ a2.toInt ≤ 6) ∧ (0 ≤ a4.toInt ∧ a4.toInt ≤ 6)) → J j3 := fun j3 hj => hJ j3 (t_isIn (fun r4 b4 h4 => t_isThrown hI (fun r6 μ5 b6 f5 h6 => ⟨b6, h _ _ b6 f5 (fun c => by
    obtain ⟨c1, c2⟩ := h6 c
    obtain ⟨x1, x2, x3⟩ := hj c1
    exact ⟨x1, x2, x3, h4 c2⟩)⟩)))
  refine ⟨fun _ => key 0 (fun z => absurd rfl z), fun c1 => t_isState (h1 c1) hI (fun r11 b11 h11 => ⟨fun _ => key 0 (fun z => absurd rfl z), fun c2 => t_isState (h1 c1) hI (fun r15 b15 h15 => ⟨fun _ => key 0 (fun z => absurd rfl z), fun c3 => key 1 (fun _ => ⟨h1 c1, h11 c2, h15 c3⟩)⟩)⟩)⟩
theorem t_arrow {a1 a2 a3 a4 a5 : Int32} (hI : RI μ) (h : ∀ (r : Int32) (μ9 : TMem), FQ μ μ9 → Qm r μ9) : wp_X11_arrow μ a1 a2 a3 a4 a5 Qm := by
  refine t_isNoArrow hI (fun r2 μ1 b2 f1 h2 => ⟨fun c => ?_, fun _ => h _ _ f1⟩)
  obtain ⟨hm, hf, ht, hs⟩ := h2 c
  refine t_key hm hf hs (fun r4 hr => ?_)
  have hv : vp_in r4 84 := in84 (by have := hm.1; omega) (by have := hm.2; omega)
  refine ⟨hv, ?_⟩
  intro J hJ
  have key : ∀ j, J j := fun j => hJ j ⟨hv, hv, fun _ => t_did (f1.st (by decide) (Or.inl (by decide))).1 (fun r μ9 f9 => h _ _ ((f1.st (by decide) (Or.inl (by decide))).trans f9)), fun _ => t_did (f1.st (by decide) (Or.inl (by decide))).1 (fun r μ9 f9 => h _ _ ((f1.st (by decide) (Or.inl (by decide))).trans f9))⟩
  exact ⟨fun _ => key _, fun _ => key _⟩
theorem t_lead {a1 a2 a3 a4 : Int32} (hI : RI μ) (h : ∀ (r : Int32) (μ9 : TMem), FQ μ μ9 → Qm r μ9) : wp_X11_lead μ a1 a2 a3 a4 Qm := by
  refine t_isNoArrow hI (fun r2 μ1 b2 f1 h2 => ⟨fun c => ?_, fun _ => h _ _ f1⟩)
  obtain ⟨hm, hf, ht, hs⟩ := h2 c
  refine t_key hm hf hs (fun r4 hr => ?_)
  have hv : vp_in r4 84 := in84 (by have := hm.1; omega) (by have := hm.2; omega)
  exact ⟨hv, hv, t_bits (fun r7 => t_did (f1.st (by decide) (Or.inl (by decide))).1 (fun r μ9 f9 => h _ _ ((f1.st (by decide) (Or.inl (by decide))).trans f9)))⟩
theorem t_mark {a1 a2 a3 a4 : Int32} (hI : RI μ) (h : ∀ (r : Int32) (μ9 : TMem), FQ μ μ9 → Qm r μ9) : wp_X11_mark μ a1 a2 a3 a4 Qm := by
  have go : ∀ (k : Nat) (v w : Int32) (μ3 : TMem), k = 2 ∨ k = 3 → FQ μ μ3 → wp_X11_did (tms μ3 k a1.toNatClampNeg v) w (fun (r : Int32) (μ9 : TMem) => Qm r μ9) := fun k v w μ3 hk f3 => by
    have f := f3.st (k := k) (i := a1.toNatClampNeg) (v := v) (by omega) (Or.inl (by omega))
    exact t_did f.1 (fun r μ9 f9 => h _ _ (f.trans f9))
  refine t_isOne (fun r1 b1 h1 => ⟨fun c1 => t_isThrown hI (fun r4 μ3 b4 f3 h4 => ⟨fun c => absurd rfl (h4 c).1, fun _ => h _ _ f3⟩), fun c1 => ?_⟩)
  have hm := h1 c1
  have hv := hm.in4
  refine t_isState hm hI (fun r2 b2 h2 => ?_)
  sorry
end RMA
