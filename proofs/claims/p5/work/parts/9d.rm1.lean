section RMA
/-- how many states, of each machine of the reference's -/
def RI (μ : TMem) : Prop := ∀ i : Nat, i < 4 → 1 ≤ (μ 1 i).toInt ∧ (μ 1 i).toInt ≤ 7
def FQ (μ μ9 : TMem) : Prop := RI μ9 ∧ μ9 0 6 = μ 0 6
def M1 (a : Int32) : Prop := 0 ≤ a.toInt ∧ a.toInt ≤ 3
theorem FQ.rf {μ : TMem} (h : RI μ) : FQ μ μ := ⟨h, rfl⟩
theorem FQ.trans {a b c : TMem} (h1 : FQ a b) (h2 : FQ b c) : FQ a c := ⟨h2.1, h2.2.trans h1.2⟩
theorem FQ.st {a b : TMem} {k i : Nat} {v : Int32} (h : FQ a b) (hk : k ≠ 1) (h6 : k ≠ 0 ∨ i ≠ 6) : FQ a (tms b k i v) := by
  refine ⟨fun j hj => ?_, ?_⟩
  · have := h.1 j hj
    simpa [tms, Ne.symm hk] using this
  · rw [← h.2]
    by_cases e : 0 = k
    · subst e
      have h7 : 6 ≠ i := fun z => h6.elim (fun w => w rfl) (fun w => w z.symm)
      simp [tms, upd, h7]
    · simp [tms, e]
theorem FQ.m {a b : TMem} {i : Nat} {v : Int32} (h : FQ a b) (hv : 1 ≤ v.toInt ∧ v.toInt ≤ 7) : FQ a (tms b 1 i v) := by
  refine ⟨fun j hj => ?_, ?_⟩
  · have := h.1 j hj
    by_cases e : j = i
    · subst e
      simpa [tms, upd] using hv
    · simpa [tms, upd, e] using this
  · rw [← h.2]
    simp [tms]
theorem M1.in4 {a : Int32} (h : M1 a) : vp_in a 4 := vin (by have := h.1; have := h.2; omega)
theorem M1.cl {a : Int32} (h : M1 a) : a.toNatClampNeg < 4 := by
  have := h.1
  have := h.2
  rw [ii_cl]
  omega
theorem M1.ri {μ : TMem} {a : Int32} (h : M1 a) (hI : RI μ) : 1 ≤ (μ 1 a.toNatClampNeg).toInt ∧ (μ 1 a.toNatClampNeg).toInt ≤ 7 := hI _ h.cl
theorem in84 {x : Int32} (h0 : 0 ≤ x.toInt) (h : x.toInt < 84) : vp_in x 84 := vin (by omega)
variable {Q : Int32 → Prop} {Qm : Int32 → TMem → Prop} {Qv : TMem → Prop} {μ : TMem}
theorem t_key {a0 a1 a2 : Int32} (h0 : M1 a0) (h1 : 0 ≤ a1.toInt ∧ a1.toInt ≤ 6) (h2 : 0 ≤ a2.toInt ∧ a2.toInt ≤ 2) (h : ∀ r : Int32, r.toInt = 21 * a0.toInt + 3 * a1.toInt + a2.toInt → Q r) : wp_X11_key a0 a1 a2 Q := by
  obtain ⟨h3, h4⟩ := h0
  have k : (((a0 * (7 : Int32)) + a1) * (3 : Int32) + a2).toInt = (a0.toInt * 7 + a1.toInt) * 3 + a2.toInt := ii_a (ii_m (ii_a (ii_m rfl rfl (by omega) (by omega)) rfl (by omega) (by omega)) rfl (by omega) (by omega)) rfl (by omega) (by omega)
  exact h _ (k.trans (by omega))
theorem t_isIn {a0 a1 a2 : Int32} (h : ∀ r : Int32, isB r → (r ≠ 0 → a1.toInt ≤ a0.toInt ∧ a0.toInt ≤ a2.toInt) → Q r) : wp_X11_isIn a0 a1 a2 Q := by
  refine ⟨fun _ => h _ (Or.inl rfl) (fun z => absurd rfl z), fun c1 => ⟨fun _ => h _ (Or.inl rfl) (fun z => absurd rfl z), fun c2 => h _ (Or.inr rfl) (fun _ => ?_)⟩⟩
  rw [l_lt] at c1 c2
  omega
theorem t_isOne {a0 : Int32} (h : ∀ r : Int32, isB r → (r ≠ 0 → M1 a0) → Q r) : wp_X11_isOne a0 Q :=
  t_isIn (fun r b hr => ⟨b, h r b hr⟩)
theorem t_isThrown {a1 a2 : Int32} (hI : RI μ) (h : ∀ (r : Int32) (μ9 : TMem), isB r → FQ μ μ9 → (r = 0 → a1 ≠ 0 ∧ a2 ≠ 0) → Qm r μ9) : wp_X11_isThrown μ a1 a2 Qm := by
  have hf : ∀ j, FQ μ (tms μ 0 7 j) := fun j => (FQ.rf hI).st (by decide) (Or.inr (by decide))
  have bad : ∀ j : Int32, ¬ j ≤ 0 → (((tms μ 0 7 j) 0 7) ≤ 0 → Qm (0 : Int32) (tms μ 0 7 j)) ∧ (¬ ((tms μ 0 7 j) 0 7) ≤ 0 → Qm (1 : Int32) (tms μ 0 7 j)) := fun j hj => by
    rw [show (tms μ 0 7 j) 0 7 = j by simp [tms, upd]]
    exact ⟨fun z => absurd z hj, fun _ => h _ _ (Or.inr rfl) (hf j) (fun z => absurd z (by decide))⟩
  intro J hJ
  refine ⟨fun c1 => ⟨fun c2 => hJ _ ?_, fun _ => hJ _ (bad _ (by decide))⟩, fun _ => hJ _ (bad _ (by decide))⟩
  rw [show (tms μ 0 7 (0 : Int32)) 0 7 = 0 by simp [tms, upd]]
  exact ⟨fun _ => h _ _ (Or.inl rfl) (hf _) (fun _ => ⟨c1, c2⟩), fun z => absurd (by decide) z⟩
theorem t_isCrowded {na1 : Nat} {fa1 : Nat → Int32} {a2 : Int32} (hI : RI μ) (h : ∀ μ9 : TMem, FQ μ μ9 → Qm 0 μ9) : wp_X11_isCrowded μ na1 fa1 a2 Qm := h _ ((FQ.rf hI).st (by decide) (Or.inr (by decide)))
theorem t_isCrowded_n {a2 : Int32} (hI : RI μ) (h : ∀ μ9 : TMem, FQ μ μ9 → Qm 1 μ9) : wp_X11_isCrowded_n μ a2 Qm := h _ ((FQ.rf hI).st (by decide) (Or.inr (by decide)))
theorem t_isState {a1 a2 : Int32} (hm : M1 a1) (hI : RI μ) (h : ∀ r : Int32, isB r → (r ≠ 0 → 0 ≤ a2.toInt ∧ a2.toInt ≤ 6) → Q r) : wp_X11_isState μ a1 a2 Q := by
  refine ⟨hm.in4, t_isIn (fun r b hr => ⟨b, h r b (fun z => ?_)⟩)⟩
  have h1 := hr z
  have h2 := hm.ri hI
  have h3 : ((μ 1 a1.toNatClampNeg) - (1 : Int32)).toInt = (μ 1 a1.toNatClampNeg).toInt - 1 := ii_s rfl rfl (by omega) (by omega)
  rw [ii_0] at h1
  omega
theorem t_did {a1 : Int32} (hI : RI μ) (h : ∀ (r : Int32) (μ9 : TMem), FQ μ μ9 → Qm r μ9) : wp_X11_did μ a1 Qm := h _ _ ((FQ.rf hI).st (by decide) (Or.inr (by decide)))
theorem t_refuse (hI : RI μ) (h : ∀ (r : Int32) (μ9 : TMem), FQ μ μ9 → Qm r μ9) : wp_X11_refuse μ Qm := h _ _ ((FQ.rf hI).st (by decide) (Or.inr (by decide)))
theorem t_bits {a : Int32} (h : ∀ r : Int32, Q r) : wp_J6_bitCount_0f7a4 a Q := h _
theorem t_arrowsOf {a1 : Int32} (hm : M1 a1) (h : ∀ r : Int32, Q r) : wp_X11_arrowsOf μ a1 Q := by
  obtain ⟨h1, h2⟩ := hm
  have L : ∀ (n : Nat) (v3 v4 : Int32), (21 * a1.toInt + 21 - v3.toInt).toNat < n → 0 ≤ v3.toInt → wpl_X11_arrowsOf_9 μ a1 Q n v3 v4 := by
    intro n
    induction n with
    | zero => intro v3 v4 hk; exact absurd hk (Nat.not_lt_zero _)
    | succ n ih =>
      intro v3 v4 hk h0
      refine t_key ⟨h1, h2⟩ ⟨by decide, by decide⟩ ⟨by decide, by decide⟩ (fun r6 hr => ?_)
      rw [ii_0] at hr
      have k : (r6 + (21 : Int32)).toInt = 21 * a1.toInt + 21 := by
        have : (r6 + (21 : Int32)).toInt = r6.toInt + 21 := ii_a rfl rfl (by omega) (by omega)
        omega
      refine ⟨fun _ => h _, fun c => ?_⟩
      have c1 := nle c
      have e1 := inc_i c
      exact ⟨in84 h0 (by omega), t_bits (fun r9 => ih _ _ (by omega) (by omega))⟩
  exact t_key ⟨h1, h2⟩ ⟨by decide, by decide⟩ ⟨by decide, by decide⟩ (fun r1 hr => ⟨_, L _ r1 0 (Nat.lt_succ_self _) (by rw [ii_0] at hr; omega)⟩)
theorem t_isPlain {a1 : Int32} (hm : M1 a1) (hI : RI μ) (h : ∀ r : Int32, isB r → Q r) : wp_X11_isPlain μ a1 Q := by
  have hr := hm.ri hI
  have b1 : ∀ v : Int32, isB v → isB (v &&& (0 : Int32)) := fun v hv => by rcases hv with rfl | rfl <;> exact Or.inl rfl
  have b2 : ∀ v : Int32, isB v → isB (v &&& (1 : Int32)) := fun v hv => by
    rcases hv with rfl | rfl
    · exact Or.inl rfl
    · exact Or.inr rfl
  have L34 : ∀ (v14 : Int32) (K : Int32 → Prop), 0 ≤ v14.toInt → v14.toInt ≤ 6 → (∀ u, isB u → K u) → ∀ (n : Nat) (v13 v15 : Int32), ((3 : Int32).toInt - v13.toInt).toNat < n → 0 ≤ v13.toInt → isB v15 → wpl_X11_isPlain_34 μ v14 a1 K n v13 v15 := by
    intro v14 K h1 h2 hK n
    induction n with
    | zero => intro v13 v15 hk; exact absurd hk (Nat.not_lt_zero _)
    | succ n ih =>
      intro v13 v15 hk h0 hb
      refine ⟨fun _ => hK _ hb, fun c => ?_⟩
      have c1 := nle c
      have e1 := inc_i c
      rw [show (3 : Int32).toInt = 3 from rfl] at c1 hk
      refine t_key hm ⟨h1, h2⟩ ⟨h0, by omega⟩ (fun r18 hr18 => ⟨in84 (by have := hm.1; omega) (by have := hm.2; omega), t_bits (fun r20 => ⟨fun _ => ih _ _ (by rw [show (3 : Int32).toInt = 3 from rfl]; omega) (by omega) (b1 _ hb), fun _ => ih _ _ (by rw [show (3 : Int32).toInt = 3 from rfl]; omega) (by omega) (b2 _ hb)⟩)⟩)
  have L21 : ∀ (n : Nat) (v6 v7 : Int32), ((μ 1 a1.toNatClampNeg).toInt - v6.toInt).toNat < n → 0 ≤ v6.toInt → isB v7 → wpl_X11_isPlain_21 μ a1 Q n v6 v7 := by
    intro n
    induction n with
    | zero => intro v6 v7 hk; exact absurd hk (Nat.not_lt_zero _)
    | succ n ih =>
      intro v6 v7 hk h0 hb
      refine ⟨hm.in4, fun _ => ⟨hb, h _ hb⟩, fun c => ?_⟩
      have c1 := nle c
      have e1 := inc_i c
      exact ⟨_, L34 v6 _ h0 (by omega) (fun u hu => ih _ _ (by omega) (by omega) hu) _ 0 v7 (Nat.lt_succ_self _) (by decide) hb⟩
  refine ⟨hm.in4, t_bits (fun r2 => ?_)⟩
  intro J hJ
  exact ⟨fun _ => hJ _ ⟨_, L21 _ 0 _ (Nat.lt_succ_self _) (by decide) (Or.inl rfl)⟩, fun _ => hJ _ ⟨_, L21 _ 0 _ (Nat.lt_succ_self _) (by decide) (Or.inr rfl)⟩⟩
theorem t_clear {a1 a2 : Int32} (hm : M1 a1) (hI : RI μ) (ha : 1 ≤ a2.toInt ∧ a2.toInt ≤ 7) (h : ∀ μ9 : TMem, FQ μ μ9 → (∀ j, j ≠ a1.toNatClampNeg → μ9 1 j = μ 1 j) → μ9 1 a1.toNatClampNeg = a2 → Qv μ9) : wp_X11_clear μ a1 a2 Qv := by
  have L : ∀ (μ0 : TMem), FQ μ μ0 → (∀ j, j ≠ a1.toNatClampNeg → μ0 1 j = μ 1 j) → μ0 1 a1.toNatClampNeg = a2 → ∀ (n : Nat) (v5 : Int32) (μ7 : TMem), ((21 : Int32).toInt - v5.toInt).toNat < n → 0 ≤ v5.toInt → FQ μ μ7 → μ7 1 = μ0 1 → wpl_X11_clear_23 a1 Qv n v5 μ7 := by
    intro μ0 f0 g1 g2 n
    induction n with
    | zero => intro v5 μ7 hk; exact absurd hk (Nat.not_lt_zero _)
    | succ n ih =>
      intro v5 μ7 hk h0 f7 e7
      refine ⟨fun _ => h _ f7 (fun j hj => by rw [e7]; exact g1 j hj) (by rw [e7]; exact g2), fun c => ?_⟩
      have c1 := nle c
      have e1 := inc_i c
      rw [show (21 : Int32).toInt = 21 from rfl] at c1 hk
      refine t_key hm ⟨by decide, by decide⟩ ⟨by decide, by decide⟩ (fun r9 hr => ?_)
      rw [ii_0] at hr
      have := hm.1
      have := hm.2
      have k : (r9 + v5).toInt = r9.toInt + v5.toInt := ii_a rfl rfl (by omega) (by omega)
      exact ⟨in84 (by omega) (by omega), ih _ _ (by rw [show (21 : Int32).toInt = 21 from rfl]; omega) (by omega) (f7.st (by decide) (Or.inl (by decide))) (by rw [← e7]; rfl)⟩
  refine ⟨hm.in4, hm.in4, hm.in4, _, L _ ((((FQ.rf hI).m ha).st (by decide) (Or.inl (by decide))).st (by decide) (Or.inl (by decide))) (fun j hj => by simp [tms, upd, hj]) (by simp [tms, upd]) _ 0 _ (Nat.lt_succ_self _) (by decide) ((((FQ.rf hI).m ha).st (by decide) (Or.inl (by decide))).st (by decide) (Or.inl (by decide))) rfl⟩
theorem t_begin {a1 a2 : Int32} (hI : RI μ) (h : ∀ (r : Int32) (μ9 : TMem), FQ μ μ9 → Qm r μ9) : wp_X11_begin μ a1 a2 Qm := by
  refine t_isOne (fun r1 b1 h1 => t_isIn (fun r2 b2 h2 => t_isThrown hI (fun r4 μ3 b4 f3 h4 => ⟨fun c => ?_, fun _ => h _ _ f3⟩)))
  obtain ⟨c1, c2⟩ := h4 c
  have hm := h1 c1
  have ha := h2 c2
  exact t_arrowsOf hm (fun r8 => t_clear hm f3.1 ha (fun μ9 f9 _ _ => t_did f9.1 (fun r11 μ10 f10 => h _ _ ((f3.trans f9).trans f10))))
theorem t_isNoArrow {a1 a2 a3 a4 : Int32} (hI : RI μ) (h : ∀ (r : Int32) (μ9 : TMem), isB r → FQ μ μ9 → (r = 0 → M1 a1 ∧ (0 ≤ a2.toInt ∧ a2.toInt ≤ 6) ∧ (0 ≤ a4.toInt ∧ a4.toInt ≤ 6) ∧ (0 ≤ a3.toInt ∧ a3.toInt ≤ 2)) → Qm r μ9) : wp_X11_isNoArrow μ a1 a2 a3 a4 Qm := by
  refine t_isOne (fun r1 b1 h1 => ?_)
  intro J hJ
  have key : ∀ j3 : Int32, (j3 ≠ 0 → M1 a1 ∧ (0 ≤ a2.toInt ∧ a2.toInt ≤ 6) ∧ (0 ≤ a4.toInt ∧ a4.toInt ≤ 6)) → J j3 := fun j3 hj => hJ j3 (t_isIn (fun r4 b4 h4 => t_isThrown hI (fun r6 μ5 b6 f5 h6 => ⟨b6, h _ _ b6 f5 (fun c => by
    obtain ⟨c1, c2⟩ := h6 c
    obtain ⟨x1, x2, x3⟩ := hj c1
    exact ⟨x1, x2, x3, h4 c2⟩)⟩)))
  refine ⟨fun _ => key 0 (fun z => absurd rfl z), fun c1 => t_isState (h1 c1) hI (fun r11 b11 h11 => ⟨fun _ => key 0 (fun z => absurd rfl z), fun c2 => t_isState (h1 c1) hI (fun r15 b15 h15 => ⟨fun _ => key 0 (fun z => absurd rfl z), fun c3 => key 1 (fun _ => ⟨h1 c1, h11 c2, h15 c3⟩)⟩)⟩)⟩
theorem t_arrow {a1 a2 a3 a4 a5 : Int32} (hI : RI μ) (h : ∀ (r : Int32) (μ9 : TMem), FQ μ μ9 → Qm r μ9) : wp_X11_arrow μ a1 a2 a3 a4 a5 Qm := by
  refine t_isNoArrow hI (fun r2 μ1 b2 f1 h2 => ⟨fun c => ?_, fun _ => h _ _ f1⟩)
  obtain ⟨hm, hf, ht, hs⟩ := h2 c
  refine t_key hm hf hs (fun r4 hr => ?_)
  have hv : vp_in r4 84 := in84 (by have := hm.1; omega) (by have := hm.2; omega)
  refine ⟨hv, ?_⟩
  intro J hJ
  have key : ∀ j, J j := fun j => hJ j ⟨hv, hv, fun _ => t_did (f1.st (by decide) (Or.inl (by decide))).1 (fun r μ9 f9 => h _ _ ((f1.st (by decide) (Or.inl (by decide))).trans f9)), fun _ => t_did (f1.st (by decide) (Or.inl (by decide))).1 (fun r μ9 f9 => h _ _ ((f1.st (by decide) (Or.inl (by decide))).trans f9))⟩
  exact ⟨fun _ => key _, fun _ => key _⟩
theorem t_lead {a1 a2 a3 a4 : Int32} (hI : RI μ) (h : ∀ (r : Int32) (μ9 : TMem), FQ μ μ9 → Qm r μ9) : wp_X11_lead μ a1 a2 a3 a4 Qm := by
  refine t_isNoArrow hI (fun r2 μ1 b2 f1 h2 => ⟨fun c => ?_, fun _ => h _ _ f1⟩)
  obtain ⟨hm, hf, ht, hs⟩ := h2 c
  refine t_key hm hf hs (fun r4 hr => ?_)
  have hv : vp_in r4 84 := in84 (by have := hm.1; omega) (by have := hm.2; omega)
  exact ⟨hv, hv, t_bits (fun r7 => t_did (f1.st (by decide) (Or.inl (by decide))).1 (fun r μ9 f9 => h _ _ ((f1.st (by decide) (Or.inl (by decide))).trans f9)))⟩
theorem b_0 (v : Int32) : isB (v &&& (0 : Int32)) := Or.inl (by apply Int32.toBitVec_inj.mp; simp)
theorem b_1 {v : Int32} (hv : isB v) : isB (v &&& (1 : Int32)) := by
  rcases hv with rfl | rfl
  · exact Or.inl rfl
  · exact Or.inr rfl
theorem t_thr {a1 a2 : Int32} {B : TMem → Prop} (hI : RI μ) (hq : ∀ μ9, FQ μ μ9 → Qm 0 μ9) (hb : ∀ μ3, FQ μ μ3 → a1 ≠ 0 → a2 ≠ 0 → B μ3) : wp_X11_isThrown μ a1 a2 (fun r μ3 => (r = 0 → B μ3) ∧ (¬ r = 0 → Qm 0 μ3)) :=
  t_isThrown hI (fun r μ3 b f h0 => ⟨fun c => hb μ3 f (h0 c).1 (h0 c).2, fun _ => hq _ f⟩)
theorem t_two {a1 a2 : Int32} {B : Int32 → Prop} (h : ∀ j : Int32, (j ≠ 0 → M1 a1 ∧ M1 a2) → B j) : wp_X11_isOne a1 (fun r1 => ∀ J2 : Int32 → Prop, (∀ j3 : Int32, B j3 → J2 j3) → ((r1 = 0 → J2 0) ∧ (¬ r1 = 0 → wp_X11_isOne a2 (fun r31 => (r31 = 0 → J2 0) ∧ (¬ r31 = 0 → J2 1))))) := by
  refine t_isOne (fun r1 b1 h1 => ?_)
  intro J hJ
  exact ⟨fun _ => hJ _ (h 0 (fun z => absurd rfl z)), fun c1 => t_isOne (fun r2 b2 h2 => ⟨fun _ => hJ _ (h 0 (fun z => absurd rfl z)), fun c2 => hJ _ (h 1 (fun _ => ⟨h1 c1, h2 c2⟩))⟩)⟩
theorem t_ost {a1 a2 : Int32} {B : Int32 → Prop} (hI : RI μ) (h : ∀ j : Int32, (j ≠ 0 → M1 a1 ∧ 0 ≤ a2.toInt ∧ a2.toInt ≤ 6) → B j) : wp_X11_isOne a1 (fun r1 => ∀ J2 : Int32 → Prop, (∀ j3 : Int32, B j3 → J2 j3) → ((r1 = 0 → J2 0) ∧ (¬ r1 = 0 → wp_X11_isState μ a1 a2 (fun r31 => (r31 = 0 → J2 0) ∧ (¬ r31 = 0 → J2 1))))) := by
  refine t_isOne (fun r1 b1 h1 => ?_)
  intro J hJ
  exact ⟨fun _ => hJ _ (h 0 (fun z => absurd rfl z)), fun c1 => t_isState (h1 c1) hI (fun r2 b2 h2 => ⟨fun _ => hJ _ (h 0 (fun z => absurd rfl z)), fun c2 => hJ _ (h 1 (fun _ => ⟨h1 c1, h2 c2⟩))⟩)⟩
theorem t_key0 {a : Int32} (hm : M1 a) (h : ∀ r : Int32, r.toInt = 21 * a.toInt → (∀ v : Int32, 0 ≤ v.toInt → v.toInt < 21 → vp_in (r + v) 84) → Q r) : wp_X11_key a 0 0 Q := by
  refine t_key hm ⟨by decide, by decide⟩ ⟨by decide, by decide⟩ (fun r hr => ?_)
  rw [ii_0] at hr
  have h1 := hm.1
  have h2 := hm.2
  refine h r (by omega) (fun v h0 h3 => ?_)
  have k : (r + v).toInt = r.toInt + v.toInt := ii_a rfl rfl (by omega) (by omega)
  exact in84 (by omega) (by omega)
theorem t_keyv {a b c : Int32} (hm : M1 a) (h1 : 0 ≤ b.toInt ∧ b.toInt ≤ 6) (h2 : 0 ≤ c.toInt ∧ c.toInt ≤ 2) (h : ∀ r : Int32, vp_in r 84 → Q r) : wp_X11_key a b c Q :=
  t_key hm h1 h2 (fun r hr => h r (in84 (by have := hm.1; omega) (by have := hm.2; omega)))
theorem t_mark {a1 a2 a3 a4 : Int32} (hI : RI μ) (h : ∀ (r : Int32) (μ9 : TMem), FQ μ μ9 → Qm r μ9) : wp_X11_mark μ a1 a2 a3 a4 Qm := by
  have go : ∀ (k : Nat) (v w : Int32) (μ3 : TMem), k = 2 ∨ k = 3 → FQ μ μ3 → wp_X11_did (tms μ3 k a1.toNatClampNeg v) w (fun (r : Int32) (μ9 : TMem) => Qm r μ9) := fun k v w μ3 hk f3 => by
    have f := f3.st (k := k) (i := a1.toNatClampNeg) (v := v) (by omega) (Or.inl (by omega))
    exact t_did f.1 (fun r μ9 f9 => h _ _ (f.trans f9))
  have no : ∀ (r4 : Int32) (μ3 : TMem) {A : Prop}, FQ μ μ3 → (r4 = 0 → (0 : Int32) ≠ 0 ∧ (1 : Int32) ≠ 0) → (r4 = 0 → A) ∧ (¬ r4 = 0 → Qm 0 μ3) := fun r4 μ3 A f h4 => ⟨fun c => absurd rfl (h4 c).1, fun _ => h _ _ f⟩
  refine t_isOne (fun r1 b1 h1 => ⟨fun c1 => t_isThrown hI (fun r4 μ3 b4 f3 h4 => no r4 μ3 f3 h4), fun c1 => ?_⟩)
  have hv := (h1 c1).in4
  refine t_isState (h1 c1) hI (fun r2 b2 h2 => ⟨fun c2 => t_isThrown hI (fun r4 μ3 b4 f3 h4 => no r4 μ3 f3 h4), fun c2 => t_isThrown hI (fun r4 μ3 b4 f3 h4 => ⟨fun c => ?_, fun _ => h _ _ f3⟩)⟩)
  refine ⟨fun _ => ⟨hv, fun _ => ⟨hv, hv, fun _ => ?_, fun _ => ?_⟩, fun _ => ⟨hv, hv, fun _ => ?_, fun _ => ?_⟩⟩, fun _ => ⟨hv, fun _ => ⟨hv, hv, fun _ => ?_, fun _ => ?_⟩, fun _ => ⟨hv, hv, fun _ => ?_, fun _ => ?_⟩⟩⟩
  · exact go 2 _ _ _ (Or.inl rfl) f3
  · exact go 2 _ _ _ (Or.inl rfl) f3
  · exact go 2 _ _ _ (Or.inl rfl) f3
  · exact go 2 _ _ _ (Or.inl rfl) f3
  · exact go 3 _ _ _ (Or.inr rfl) f3
  · exact go 3 _ _ _ (Or.inr rfl) f3
  · exact go 3 _ _ _ (Or.inr rfl) f3
  · exact go 3 _ _ _ (Or.inr rfl) f3
theorem t_sow79 (v28 v29 v31 v32 v33 : Int32) (K : Int32 → TMem → Prop) (h28 : 0 ≤ v28.toInt ∧ v28.toInt ≤ 2) (h29 : 0 ≤ v29.toInt ∧ v29.toInt ≤ 6) (h31 : M1 v31) (h32 : 1 ≤ v32.toInt ∧ v32.toInt ≤ 7) (h33 : 0 ≤ v33.toInt ∧ v33.toInt ≤ 6) (μ0 : TMem) (hK : ∀ u μ9, FQ μ0 μ9 → K u μ9) : ∀ (n : Nat) (v27 v30 : Int32) (μ34 : TMem), ((7 : Int) - v27.toInt).toNat < n → FQ μ0 μ34 → wpl_X11_sow_79 v28 v29 v31 v32 v33 K n v27 v30 μ34 := by
  have d1 : ¬ (v33 + (1 : Int32)) = 0 := by
    intro e
    have := congrArg Int32.toInt e
    rw [show (v33 + (1 : Int32)).toInt = v33.toInt + 1 from ii_a rfl rfl (by omega) (by omega), ii_0] at this
    omega
  have d2 : ¬ v32 = 0 := by
    intro e
    rw [e, ii_0] at h32
    omega
  intro n
  induction n with
  | zero => intro v27 v30 μ34 hk; exact absurd hk (Nat.not_lt_zero _)
  | succ n ih =>
    intro v27 v30 μ34 hk f
    intro J hJ
    have key : ∀ j : Int32, j.toInt ≤ 7 → J j := by
      intro j hj
      refine hJ j ⟨fun _ => hK _ _ f, fun c => ?_⟩
      have c1 := nle c
      have e1 := inc_i c
      refine ⟨fun _ => ⟨d1, fun _ => ih _ _ _ (by omega) f, fun _ => t_keyv h31 h29 h28 (fun r hr => ⟨hr, hr, ih _ _ _ (by omega) (f.st (by decide) (Or.inl (by decide)))⟩)⟩, fun _ => t_keyv h31 h29 h28 (fun r hr => ⟨d2, hr, ih _ _ _ (by omega) (f.st (by decide) (Or.inl (by decide)))⟩)⟩
    exact ⟨fun _ => key _ h32.2, fun _ => key 1 (by decide)⟩
theorem t_sow61 (a1 a3 a4 : Int32) (K : Int32 → TMem → Prop) (h1 : M1 a1) (h3 : 1 ≤ a3.toInt ∧ a3.toInt ≤ 7) (h4 : 0 ≤ a4.toInt ∧ a4.toInt ≤ 6) (μ0 : TMem) (hK : ∀ u μ9, FQ μ0 μ9 → K u μ9) : ∀ (n : Nat) (v10 v11 : Int32) (μ15 : TMem), ((7 : Int) - v10.toInt).toNat < n → 0 ≤ v10.toInt → FQ μ0 μ15 → wpl_X11_sow_61 a1 a3 a4 K n v10 v11 μ15 := by
  have L70 : ∀ (v19 : Int32) (K2 : Int32 → TMem → Prop), 0 ≤ v19.toInt → v19.toInt ≤ 6 → (∀ u μ9, FQ μ0 μ9 → K2 u μ9) → ∀ (n : Nat) (v18 v20 : Int32) (μ24 : TMem), ((3 : Int) - v18.toInt).toNat < n → 0 ≤ v18.toInt → FQ μ0 μ24 → wpl_X11_sow_70 v19 a1 a3 a4 K2 n v18 v20 μ24 := by
    intro v19 K2 g1 g2 hK2 n
    induction n with
    | zero => intro v18 v20 μ24 hk; exact absurd hk (Nat.not_lt_zero _)
    | succ n ih =>
      intro v18 v20 μ24 hk h0 f
      refine ⟨fun _ => hK2 _ _ f, fun c => ?_⟩
      have c1 := nle c
      have e1 := inc_i c
      rw [show (3 : Int32).toInt = 3 from rfl] at c1
      exact ⟨_, t_sow79 v18 v19 a1 a3 a4 _ ⟨h0, by omega⟩ ⟨g1, g2⟩ h1 h3 h4 μ0 (fun u μ9 f9 => ih _ _ _ (by omega) (by omega) f9) _ 0 v20 μ24 (Nat.lt_succ_self _) f⟩
  intro n
  induction n with
  | zero => intro v10 v11 μ15 hk; exact absurd hk (Nat.not_lt_zero _)
  | succ n ih =>
    intro v10 v11 μ15 hk h0 f
    refine ⟨fun _ => hK _ _ f, fun c => ?_⟩
    have c1 := nle c
    have e1 := inc_i c
    exact ⟨_, L70 v10 _ h0 (by omega) (fun u μ9 f9 => ih _ _ _ (by omega) (by omega) f9) _ 0 v11 μ15 (Nat.lt_succ_self _) (by decide) f⟩
theorem t_sow193 (a1 a3 : Int32) (K : TMem → Prop) (h1 : M1 a1) (h3 : 1 ≤ a3.toInt ∧ a3.toInt ≤ 7) (μ0 : TMem) (hK : ∀ μ9, FQ μ0 μ9 → K μ9) : ∀ (n : Nat) (v58 v59 : Int32) (μ62 : TMem), ((7 : Int) - v58.toInt).toNat < n → FQ μ0 μ62 → wpl_X11_sow_193 a1 a3 K n v58 v59 μ62 := by
  intro n
  induction n with
  | zero => intro v58 v59 μ62 hk; exact absurd hk (Nat.not_lt_zero _)
  | succ n ih =>
    intro v58 v59 μ62 hk f
    refine ⟨fun _ => hK _ f, fun c => ?_⟩
    have c1 := nle c
    have e1 := inc_i c
    exact ⟨fun _ => ih _ _ _ (by omega) f, fun _ => ⟨h1.in4, h1.in4, ih _ _ _ (by omega) (f.st (by decide) (Or.inl (by decide)))⟩⟩
theorem t_sow {a1 a2 a3 a4 : Int32} (hI : RI μ) (h : ∀ (r : Int32) (μ9 : TMem), FQ μ μ9 → Qm r μ9) : wp_X11_sow μ a1 a2 a3 a4 Qm := by
  refine t_isOne (fun r1 b1 h1 => t_isIn (fun r2 b2 h2 => ?_))
  intro J hJ
  have key : ∀ j : Int32, (j ≠ 0 → (1 ≤ a3.toInt ∧ a3.toInt ≤ 7) ∧ (0 ≤ a4.toInt ∧ a4.toInt ≤ 6)) → J j := by
    intro j hj
    refine hJ j (t_thr hI (h 0) (fun μ5 f5 c1 c2 => ?_))
    obtain ⟨h3, h4⟩ := hj c2
    have hm := h1 c1
    refine t_clear hm f5.1 h3 (fun μ8 f8 _ _ => ⟨_, t_sow61 a1 a3 a4 _ hm h3 h4 μ8 (fun u μ9 f9 => ⟨_, t_sow193 a1 a3 _ hm h3 μ9 (fun μ10 f10 => t_arrowsOf hm (fun r71 => t_did f10.1 (fun r μ11 f11 => h _ _ ((((f5.trans f8).trans f9).trans f10).trans f11)))) _ 0 u μ9 (Nat.lt_succ_self _) (FQ.rf f9.1)⟩) _ 0 a2 μ8 (Nat.lt_succ_self _) (by decide) (FQ.rf f8.1)⟩)
  have no : J 0 := key 0 (fun z => absurd rfl z)
  exact ⟨fun _ => no, fun _ => t_isIn (fun r3 b3 h3 => ⟨fun _ => no, fun c3 => t_isIn (fun r4 b4 h4 => ⟨fun _ => no, fun c4 => key 1 (fun _ => ⟨h3 c3, h4 c4⟩)⟩)⟩)⟩
theorem t_isSame {a1 a2 : Int32} (h1 : M1 a1) (h2 : M1 a2) (h : ∀ r : Int32, Q r) : wp_X11_isSame μ a1 a2 Q := by
  have L : ∀ (n : Nat) (v6 v7 : Int32), ((21 : Int) - v6.toInt).toNat < n → 0 ≤ v6.toInt → isB v7 → wpl_X11_isSame_54 μ a1 a2 Q n v6 v7 := by
    intro n
    induction n with
    | zero => intro v6 v7 hk; exact absurd hk (Nat.not_lt_zero _)
    | succ n ih =>
      intro v6 v7 hk h0 hb
      refine ⟨fun _ => ⟨hb, h _⟩, fun c => ?_⟩
      have c1 := nle c
      have e1 := inc_i c
      rw [show (21 : Int32).toInt = 21 from rfl] at c1
      exact t_key0 h1 (fun r12 _ g12 => ⟨g12 _ h0 c1, t_key0 h2 (fun r14 _ g14 => ⟨g14 _ h0 c1, fun _ => ih _ _ (by omega) (by omega) (b_0 _), fun _ => ih _ _ (by omega) (by omega) (b_1 hb)⟩)⟩)
  refine ⟨h1.in4, h2.in4, ?_⟩
  intro J hJ
  have key : ∀ j, isB j → J j := fun j hj => hJ j ⟨_, L _ 0 j (Nat.lt_succ_self _) (by decide) hj⟩
  exact ⟨fun _ => key 0 (Or.inl rfl), fun _ => ⟨h1.in4, h2.in4, fun _ => key 0 (Or.inl rfl), fun _ => ⟨h1.in4, h2.in4, fun _ => key 0 (Or.inl rfl), fun _ => key 1 (Or.inr rfl)⟩⟩⟩
theorem t_fin {r9 : Int32} {μ0 μ1 : TMem} (f : FQ μ0 μ1) (h : ∀ (r : Int32) (μ9 : TMem), FQ μ0 μ9 → Qm r μ9) : (r9 = 0 → wp_X11_did μ1 (1 : Int32) (fun r μ9 => Qm r μ9)) ∧ (¬ r9 = 0 → wp_X11_did μ1 (0 : Int32) (fun r μ9 => Qm r μ9)) :=
  ⟨fun _ => t_did f.1 (fun r μ9 f9 => h _ _ (f.trans f9)), fun _ => t_did f.1 (fun r μ9 f9 => h _ _ (f.trans f9))⟩
theorem t_copy {a1 a2 : Int32} (hI : RI μ) (h : ∀ (r : Int32) (μ9 : TMem), FQ μ μ9 → Qm r μ9) : wp_X11_copy μ a1 a2 Qm := by
  have L : ∀ (v18 : Int32) (K : TMem → Prop) (μ0 : TMem), M1 a1 → M1 a2 → (∀ μ9, FQ μ0 μ9 → K μ9) → ∀ (n : Nat) (v17 : Int32) (μ21 : TMem), ((21 : Int) - v17.toInt).toNat < n → 0 ≤ v17.toInt → FQ μ0 μ21 → wpl_X11_copy_75 v18 a1 a2 K n v17 μ21 := by
    intro v18 K μ0 h1 h2 hK n
    induction n with
    | zero => intro v17 μ21 hk; exact absurd hk (Nat.not_lt_zero _)
    | succ n ih =>
      intro v17 μ21 hk h0 f
      refine ⟨fun _ => hK _ f, fun c => ?_⟩
      have c1 := nle c
      have e1 := inc_i c
      rw [show (21 : Int32).toInt = 21 from rfl] at c1
      exact t_key0 h2 (fun r12 _ g12 => t_key0 h1 (fun r14 _ g14 => ⟨g14 _ h0 c1, g12 _ h0 c1, ih _ _ (by omega) (by omega) (f.st (by decide) (Or.inl (by decide)))⟩))
  refine t_two (fun j hj => t_thr hI (h 0) (fun μ4 f4 c1 c2 => ?_))
  obtain ⟨h1, h2⟩ := hj c1
  refine t_isSame h1 h2 (fun r9 => ⟨h1.in4, h2.in4, h1.in4, h2.in4, h1.in4, h2.in4, ?_⟩)
  have f5 := ((f4.m (i := a2.toNatClampNeg) (h1.ri f4.1)).st (k := 2) (i := a2.toNatClampNeg) (v := (tms μ4 1 a2.toNatClampNeg (μ4 1 a1.toNatClampNeg)) 2 a1.toNatClampNeg) (by decide) (Or.inl (by decide))).st (k := 3) (i := a2.toNatClampNeg) (v := (tms (tms μ4 1 a2.toNatClampNeg (μ4 1 a1.toNatClampNeg)) 2 a2.toNatClampNeg ((tms μ4 1 a2.toNatClampNeg (μ4 1 a1.toNatClampNeg)) 2 a1.toNatClampNeg)) 3 a1.toNatClampNeg) (by decide) (Or.inl (by decide))
  exact ⟨_, L r9 _ μ h1 h2 (fun μ9 f9 => t_fin f9 h) _ 0 _ (Nat.lt_succ_self _) (by decide) f5⟩
theorem t_exch1 {a2 a3 : Int32} (h2 : M1 a2) (h3 : M1 a3) (hI : RI μ) (h : ∀ μ9, FQ μ μ9 → Qv μ9) : wp_X11_exchange μ 1 a2 a3 Qv :=
  ⟨h2.in4, h3.in4, h2.in4, h3.in4, h _ (((FQ.rf hI).m (h3.ri hI)).m (h2.ri hI))⟩
theorem t_exchk {k : Nat} {a2 a3 : Int32} (hk : k ≠ 1) (hk0 : k ≠ 0) (h2 : vp_in a2 (ml k)) (h3 : vp_in a3 (ml k)) (hI : RI μ) (h : ∀ μ9, FQ μ μ9 → Qv μ9) : wp_X11_exchange μ k a2 a3 Qv :=
  ⟨h2, h3, h2, h3, h _ (((FQ.rf hI).st hk (Or.inl hk0)).st hk (Or.inl hk0))⟩
theorem t_swap {a1 a2 : Int32} (hI : RI μ) (h : ∀ (r : Int32) (μ9 : TMem), FQ μ μ9 → Qm r μ9) : wp_X11_swap μ a1 a2 Qm := by
  have L : ∀ (v15 : Int32) (K : TMem → Prop) (μ0 : TMem), M1 a1 → M1 a2 → (∀ μ9, FQ μ0 μ9 → K μ9) → ∀ (n : Nat) (v14 : Int32) (μ18 : TMem), ((21 : Int) - v14.toInt).toNat < n → 0 ≤ v14.toInt → FQ μ0 μ18 → wpl_X11_swap_66 v15 a1 a2 K n v14 μ18 := by
    intro v15 K μ0 h1 h2 hK n
    induction n with
    | zero => intro v14 μ18 hk; exact absurd hk (Nat.not_lt_zero _)
    | succ n ih =>
      intro v14 μ18 hk h0 f
      refine ⟨fun _ => hK _ f, fun c => ?_⟩
      have c1 := nle c
      have e1 := inc_i c
      rw [show (21 : Int32).toInt = 21 from rfl] at c1
      exact t_key0 h1 (fun r12 _ g12 => t_key0 h2 (fun r14 _ g14 => t_exchk (by decide) (by decide) (g12 _ h0 c1) (g14 _ h0 c1) f.1 (fun μ9 f9 => ih _ _ (by omega) (by omega) (f.trans f9))))
  refine t_two (fun j hj => t_thr hI (h 0) (fun μ4 f4 c1 c2 => ?_))
  obtain ⟨h1, h2⟩ := hj c1
  exact t_isSame h1 h2 (fun r9 => t_exch1 h1 h2 f4.1 (fun μ5 f5 => t_exchk (by decide) (by decide) h1.in4 h2.in4 f5.1 (fun μ6 f6 => t_exchk (by decide) (by decide) h1.in4 h2.in4 f6.1 (fun μ7 f7 => ⟨_, L r9 _ μ h1 h2 (fun μ9 f9 => t_fin f9 h) _ 0 _ (Nat.lt_succ_self _) (by decide) (((f4.trans f5).trans f6).trans f7)⟩))))
theorem t_turn {a1 : Int32} (hI : RI μ) (h : ∀ (r : Int32) (μ9 : TMem), FQ μ μ9 → Qm r μ9) : wp_X11_turn μ a1 Qm := by
  have L35 : ∀ (f9 : Nat → Int64) (v18 : Int32) (K : TMem → Prop) (μ0 : TMem), M1 a1 → 0 ≤ v18.toInt → v18.toInt ≤ 6 → (∀ μ9, FQ μ0 μ9 → K μ9) → ∀ (n : Nat) (v17 : Int32) (μ20 : TMem), ((3 : Int) - v17.toInt).toNat < n → 0 ≤ v17.toInt → FQ μ0 μ20 → wpl_X11_turn_35 f9 21 v18 a1 K n v17 μ20 := by
    intro f9 v18 K μ0 hm g1 g2 hK n
    induction n with
    | zero => intro v17 μ20 hk; exact absurd hk (Nat.not_lt_zero _)
    | succ n ih =>
      intro v17 μ20 hk h0 f
      refine ⟨fun _ => hK _ f, fun c => ?_⟩
      have c1 := nle c
      have e1 := inc_i c
      rw [show (3 : Int32).toInt = 3 from rfl] at c1
      have r7 := hm.ri f.1
      exact t_keyv hm ⟨g1, g2⟩ ⟨h0, by omega⟩ (fun r hr => ⟨hm.in4, (nx 21 f9 _ _ _ _ (by omega) (by omega) h0 (by omega)).use (fun r24 _ => ⟨hr, ih _ _ (by omega) (by omega) (f.st (by decide) (Or.inl (by decide)))⟩)⟩)
  have L22 : ∀ (f9 : Nat → Int64) (K : TMem → Prop) (μ0 : TMem), M1 a1 → (∀ μ9, FQ μ0 μ9 → K μ9) → ∀ (n : Nat) (v11 : Int32) (μ13 : TMem), ((7 : Int) - v11.toInt).toNat < n → 0 ≤ v11.toInt → FQ μ0 μ13 → wpl_X11_turn_22 f9 21 a1 K n v11 μ13 := by
    intro f9 K μ0 hm hK n
    induction n with
    | zero => intro v11 μ13 hk; exact absurd hk (Nat.not_lt_zero _)
    | succ n ih =>
      intro v11 μ13 hk h0 f
      refine ⟨hm.in4, fun _ => hK _ f, fun c => ?_⟩
      have c1 := nle c
      have e1 := inc_i c
      have r7 := hm.ri f.1
      exact ⟨_, L35 f9 v11 _ μ0 hm h0 (by omega) (fun μ9 f9 => ih _ _ (by omega) (by omega) f9) _ 0 _ (Nat.lt_succ_self _) (by decide) f⟩
  refine t_isOne (fun r1 b1 h1 => t_thr hI (h 0) (fun μ2 f2 c1 c2 => ?_))
  have hm := h1 c1
  obtain ⟨g, hg⟩ := aa μ2 a1 hm.1 hm.2
  refine hg μ2 rfl _ ⟨_, L22 g _ μ hm (fun μ9 f9 => ⟨hm.in4, hm.in4, hm.in4, hm.in4, ?_⟩) _ 0 _ (Nat.lt_succ_self _) (by decide) f2⟩
  have f10 := (f9.st (k := 2) (i := a1.toNatClampNeg) (v := μ9 3 a1.toNatClampNeg) (by decide) (Or.inl (by decide))).st (k := 3) (i := a1.toNatClampNeg) (v := μ9 2 a1.toNatClampNeg) (by decide) (Or.inl (by decide))
  exact t_arrowsOf hm (fun r36 => t_did f10.1 (fun r μ11 f11 => h _ _ (f10.trans f11)))
theorem t_other {a1 : Int32} (hI : RI μ) (h : ∀ (r : Int32) (μ9 : TMem), FQ μ μ9 → Qm r μ9) : wp_X11_other μ a1 Qm := by
  refine t_isOne (fun r1 b1 h1 => t_thr hI (h 0) (fun μ2 f2 c1 c2 => ?_))
  have hm := h1 c1
  refine t_isPlain hm f2.1 (fun r7 _ => ⟨fun _ => ⟨hm.in4, hm.in4, hm.in4, hm.in4, t_bits (fun r13 => ?_)⟩, fun _ => t_refuse f2.1 (fun r μ9 f9 => h _ _ (f2.trans f9))⟩)
  have f10 := f2.st (k := 3) (i := a1.toNatClampNeg) (v := (μ2 3 a1.toNatClampNeg) ^^^ (((1 : Int32) <<< ((μ2 1 a1.toNatClampNeg) &&& 31)) - (1 : Int32))) (by decide) (Or.inl (by decide))
  exact t_did f10.1 (fun r μ11 f11 => h _ _ (f10.trans f11))
theorem t_grow {a1 : Int32} (hI : RI μ) (h : ∀ (r : Int32) (μ9 : TMem), FQ μ μ9 → Qm r μ9) : wp_X11_grow μ a1 Qm := by
  refine t_isOne (fun r1 b1 h1 => t_thr hI (h 0) (fun μ2 f2 c1 c2 => ?_))
  have hm := h1 c1
  have r7 := hm.ri f2.1
  refine ⟨hm.in4, fun c => ⟨hm.in4, hm.in4, hm.in4, ?_⟩, fun _ => t_refuse f2.1 (fun r μ9 f9 => h _ _ (f2.trans f9))⟩
  have c7 : (μ2 1 a1.toNatClampNeg).toInt ≠ 7 := fun e => c (l_eq.mpr (by rw [e]; rfl))
  have e1 : ((μ2 1 a1.toNatClampNeg) + (1 : Int32)).toInt = (μ2 1 a1.toNatClampNeg).toInt + 1 := ii_a rfl rfl (by omega) (by omega)
  have f10 := f2.m (i := a1.toNatClampNeg) (v := (μ2 1 a1.toNatClampNeg) + (1 : Int32)) (by omega)
  exact t_did f10.1 (fun r μ11 f11 => h _ _ (f10.trans f11))
theorem t_drop {a1 a2 : Int32} (hI : RI μ) (h : ∀ (r : Int32) (μ9 : TMem), FQ μ μ9 → Qm r μ9) : wp_X11_drop μ a1 a2 Qm := by
  have L60 : ∀ (v15 : Int32) (K : TMem → Prop) (P : TMem → Prop), (∀ m i v, P m → P (tms m 4 i v)) → M1 a1 → (∀ μ9, P μ9 → K μ9) → ∀ (n : Nat) (v14 : Int32) (μ18 : TMem), ((84 : Int) - v14.toInt).toNat < n → 0 ≤ v14.toInt → P μ18 → wpl_X11_drop_60 v15 a1 a2 K n v14 μ18 := by
    intro v15 K P hP hm hK n
    induction n with
    | zero => intro v14 μ18 hk; exact absurd hk (Nat.not_lt_zero _)
    | succ n ih =>
      intro v14 μ18 hk h0 f
      have h1 := hm.1
      have h2 := hm.2
      refine t_key0 hm (fun r19 e19 _ => ⟨fun _ => hK _ f, fun c => t_key0 hm (fun r21 e21 _ => ?_)⟩)
      have c1 := nle c
      have e1 := inc_i c
      have k19 : (r19 + (21 : Int32)).toInt = r19.toInt + 21 := ii_a rfl rfl (by omega) (by omega)
      have k21 : (r21 + (21 : Int32)).toInt = r21.toInt + 21 := ii_a rfl rfl (by omega) (by omega)
      have k3 : (v14 + (3 : Int32)).toInt = v14.toInt + 3 := ii_a rfl rfl (by omega) (by omega)
      refine ⟨fun _ => ⟨in84 h0 (by omega), ih _ _ (by omega) (by omega) (hP _ _ _ f)⟩, fun c2 => ?_⟩
      have c3 := nle c2
      exact ⟨in84 (by omega) (by omega), in84 h0 (by omega), ih _ _ (by omega) (by omega) (hP _ _ _ f)⟩
  have L119 : ∀ (v30 : Int32) (K : TMem → Prop) (P : TMem → Prop), (∀ m i v, P m → P (tms m 4 i v)) → M1 a1 → (∀ μ9, P μ9 → K μ9) → ∀ (n : Nat) (v29 : Int32) (μ33 : TMem), ((21 : Int) - v29.toInt).toNat < n → 0 ≤ v29.toInt → P μ33 → wpl_X11_drop_119 v30 a1 a2 K n v29 μ33 := by
    intro v30 K P hP hm hK n
    induction n with
    | zero => intro v29 μ33 hk; exact absurd hk (Nat.not_lt_zero _)
    | succ n ih =>
      intro v29 μ33 hk h0 f
      refine ⟨fun _ => hK _ f, fun c => ?_⟩
      have c1 := nle c
      have e1 := inc_i c
      rw [show (21 : Int32).toInt = 21 from rfl] at c1
      exact t_key0 hm (fun r35 _ g35 => t_key0 hm (fun r36 _ g36 => ⟨g36 _ h0 c1, g35 _ h0 c1, ih _ _ (by omega) (by omega) (hP _ _ _ f)⟩))
  refine t_ost hI (fun j hj => t_thr hI (h 0) (fun μ4 f4 c1 c2 => ?_))
  obtain ⟨hm, hs⟩ := hj c1
  have r7 := hm.ri f4.1
  have c7 : (μ4 1 a1.toNatClampNeg) ≠ 1 → (μ4 1 a1.toNatClampNeg).toInt ≠ 1 := fun c e => c (l_eq.mpr (by rw [e]; rfl))
  have hP : ∀ (m : TMem) (i : Nat) (v : Int32), FQ μ m ∧ m 1 = μ4 1 → FQ μ (tms m 4 i v) ∧ (tms m 4 i v) 1 = μ4 1 := fun m i v g => ⟨g.1.st (by decide) (Or.inl (by decide)), g.2⟩
  refine ⟨hm.in4, fun c => t_arrowsOf hm (fun r11 => t_key hm hs ⟨by decide, by decide⟩ (fun r12 e12 => ⟨_, L60 r11 _ (fun m => FQ μ m ∧ m 1 = μ4 1) hP hm (fun μ5 f5 => ⟨_, L119 r11 _ (fun m => FQ μ m ∧ m 1 = μ4 1) hP hm (fun μ6 f6 => ?_) _ 0 _ (Nat.lt_succ_self _) (by decide) f5⟩) _ r12 _ (Nat.lt_succ_self _) (by have := hm.1; rw [ii_0] at e12; omega) ⟨f4, rfl⟩⟩)), fun _ => t_refuse f4.1 (fun r μ9 f9 => h _ _ (f4.trans f9))⟩
  have e8 : ((μ6 1 a1.toNatClampNeg) - (1 : Int32)).toInt = (μ4 1 a1.toNatClampNeg).toInt - 1 := by
    rw [f6.2]
    exact ii_s rfl rfl (by omega) (by omega)
  have c8 := c7 c
  refine ⟨hm.in4, hm.in4, hm.in4, hm.in4, hm.in4, hm.in4, t_arrowsOf hm (fun r52 => ?_)⟩
  have f10 : ∀ x y : Int32, FQ μ (tms (tms (tms μ6 2 a1.toNatClampNeg x) 3 a1.toNatClampNeg y) 1 a1.toNatClampNeg ((μ6 1 a1.toNatClampNeg) - (1 : Int32))) := fun x y => ((f6.1.st (by decide) (Or.inl (by decide))).st (by decide) (Or.inl (by decide))).m (by omega)
  exact t_did (f10 _ _).1 (fun r μ11 f11 => h _ _ ((f10 _ _).trans f11))
theorem t_become {n : Nat} {f : Nat → Int32} {a1 : Int32} (hf : OW n f) (hm : M1 a1) (hI : RI μ) (h : ∀ (r : Int32) (μ9 : TMem), FQ μ μ9 → Qm r μ9) : wp_X11_become μ a1 n f Qm := by
  obtain ⟨S, hS1, hS, rfl, _, _⟩ := hf.get
  obtain ⟨q1, q2, q3, q4⟩ := quart hS
  refine ⟨fun c => ?_, fun _ => t_refuse hI h⟩
  rw [l_le, q3, show (28 : Int32).toInt = 28 from rfl] at c
  have L58 : ∀ (v14 : Int32) (K : TMem → Prop) (P : TMem → Prop), (∀ m i v, P m → P (tms m 4 i v)) → (0 ≤ v14.toInt ∧ v14.toInt < S) → (∀ μ9, P μ9 → K μ9) → ∀ (n : Nat) (v13 : Int32) (μ16 : TMem), ((3 : Int) - v13.toInt).toNat < n → 0 ≤ v13.toInt → P μ16 → wpl_X11_become_58 f (4 * S) v14 a1 K n v13 μ16 := by
    intro v14 K P hP g hK n
    induction n with
    | zero => intro v13 μ16 hk; exact absurd hk (Nat.not_lt_zero _)
    | succ n ih =>
      intro v13 μ16 hk h0 p
      refine ⟨fun _ => hK _ p, fun c => ?_⟩
      have c1 := nle c
      have e1 := inc_i c
      rw [show (3 : Int32).toInt = 3 from rfl] at c1
      exact t_keyv hm ⟨g.1, by omega⟩ ⟨h0, by omega⟩ (fun r hr => ⟨(fourk g.1 g.2 hS h0 (by omega)).2.2, hr, ih _ _ (by omega) (by omega) (hP _ _ _ p)⟩)
  refine t_clear hm hI (by omega) (fun μ2 f2 _ e2 => ?_)
  have L27 : ∀ (K : TMem → Prop), (∀ μ9, (FQ μ μ9 ∧ μ9 1 = μ2 1) → K μ9) → ∀ (n : Nat) (v4 : Int32) (μ6 : TMem), ((S : Int) - v4.toInt).toNat < n → 0 ≤ v4.toInt → (FQ μ μ6 ∧ μ6 1 = μ2 1) → wpl_X11_become_27 f (4 * S) a1 K n v4 μ6 := by
    intro K hK n
    induction n with
    | zero => intro v4 μ6 hk; exact absurd hk (Nat.not_lt_zero _)
    | succ n ih =>
      intro v4 μ6 hk h0 p
      refine ⟨hm.in4, fun _ => hK _ p, fun c => ?_⟩
      have c1 := nle c
      have e1 := inc_i c
      rw [p.2, e2, q1] at c1
      refine ⟨hm.in4, (fourk h0 c1 hS (by decide) (by decide)).2.2, hm.in4, _, L58 v4 _ (fun m => FQ μ m ∧ m 1 = μ2 1) (fun m i v g => ⟨g.1.st (by decide) (Or.inl (by decide)), g.2⟩) ⟨h0, c1⟩ (fun μ9 p9 => ih _ _ (by omega) (by omega) p9) _ 0 _ (Nat.lt_succ_self _) (by decide) ⟨p.1.st (by decide) (Or.inl (by decide)), p.2⟩⟩
  exact ⟨_, L27 _ (fun μ9 p9 => ⟨hm.in4, t_did p9.1.1 (fun r μ11 f11 => h _ _ (p9.1.trans f11))⟩) _ 0 _ (Nat.lt_succ_self _) (by decide) ⟨f2, rfl⟩⟩
theorem t_become_n {a1 : Int32} (hI : RI μ) (h : ∀ (r : Int32) (μ9 : TMem), FQ μ μ9 → Qm r μ9) : wp_X11_become_n μ a1 Qm := t_refuse hI h
theorem t_make {a1 a2 a3 : Int32} (hI : RI μ) (h : ∀ (r : Int32) (μ9 : TMem), FQ μ μ9 → Qm r μ9) : wp_X11_make μ a1 a2 a3 Qm := by
  refine t_two (fun j hj => t_thr hI (h 0) (fun μ4 f4 c1 c2 => ?_))
  obtain ⟨h1, h3⟩ := hj c1
  have key : ∀ j : Int32, wp_X11_found μ4 a1 j (fun (r18 : Option AI) => (r18 = none → (wp_X11_become_n μ4 a3 (fun r15 μ14 => Qm r15 μ14))) ∧ (∀ (n12 : Nat) (f13 : Nat → Int32), r18 = some (n12, f13) → (wp_X11_become μ4 a3 n12 f13 (fun r17 μ16 => Qm r17 μ16)))) := fun j =>
    (fnd μ4 a1 j f4.1 h1.1 h1.2).use (fun r hr => ⟨fun _ => t_become_n f4.1 (fun r μ9 f9 => h _ _ (f4.trans f9)), fun n f e => t_become (hr n f e) h3 f4.1 (fun r μ9 f9 => h _ _ (f4.trans f9))⟩)
  intro J hJ
  exact ⟨fun _ => hJ _ (key _), fun _ => hJ _ (key _)⟩
theorem t_tell {a1 a2 : Int32} (hI : RI μ) (h : ∀ (r : Int32) (μ9 : TMem), FQ μ μ9 → Qm r μ9) : wp_X11_tell μ a1 a2 Qm := by
  refine t_isOne (fun r1 b1 h1 => t_isIn (fun r2 b2 h2 => t_thr hI (h 0) (fun μ3 f3 c1 c2 => ?_)))
  have hm := h1 c1
  exact ⟨fun _ => ⟨fun _ => ⟨fun _ => ⟨fun _ => t_isPlain hm f3.1 (fun r _ => ⟨fun _ => h _ _ f3, fun _ => h _ _ f3⟩), fun _ => ⟨hm.in4, h _ _ f3⟩⟩, fun _ => ⟨hm.in4, h _ _ f3⟩⟩, fun _ => t_arrowsOf hm (fun r => h _ _ f3)⟩, fun _ => ⟨hm.in4, h _ _ f3⟩⟩
theorem t_arrows {a1 a2 a3 : Int32} (hI : RI μ) (h : ∀ (r : Int32) (μ9 : TMem), FQ μ μ9 → Qm r μ9) : wp_X11_arrows μ a1 a2 a3 Qm := by
  refine t_ost hI (fun j hj => t_isIn (fun r4 b4 h4 => t_thr hI (h 0) (fun μ5 f5 c1 c2 => ?_)))
  obtain ⟨hm, hs⟩ := hj c1
  exact t_keyv hm hs (h4 c2) (fun r hr => ⟨hr, h _ _ f5⟩)
theorem t_power (a0 : Int32) : ∃ r : Int32, ∀ Q : Int32 → Prop, Q r → wp_X11_power a0 Q := by
  have L : ∀ (n : Nat) (v2 v3 : Int32), (a0.toInt - v2.toInt).toNat < n → ∃ r : Int32, ∀ Q : Int32 → Prop, Q r → wpl_X11_power_4 a0 Q n v2 v3 := by
    intro n
    induction n with
    | zero => intro v2 v3 hk; exact absurd hk (Nat.not_lt_zero _)
    | succ n ih =>
      intro v2 v3 hk
      by_cases c : a0 ≤ v2
      · exact ⟨v3, fun Q hQ => ⟨fun _ => hQ, fun z => absurd c z⟩⟩
      · have c1 := nle c
        have e1 := inc_i c
        obtain ⟨r, hr⟩ := ih (v2 + 1) (v3 * 3) (by omega)
        exact ⟨r, fun Q hQ => ⟨fun z => absurd z c, fun _ => hr Q hQ⟩⟩
  obtain ⟨r, hr⟩ := L _ 0 1 (Nat.lt_succ_self _)
  exact ⟨r, fun Q hQ => ⟨_, hr Q hQ⟩⟩
theorem t_isWord {a0 a1 : Int32} (h : ∀ r : Int32, (r ≠ 0 → (0 ≤ a0.toInt ∧ a0.toInt ≤ 12) ∧ 0 ≤ a1.toInt) → Q r) : wp_X11_isWord a0 a1 Q := by
  obtain ⟨r3, hr⟩ := t_power a0
  refine t_isIn (fun r1 b1 h1 => ⟨fun _ => h _ (fun z => absurd rfl z), fun c1 => hr _ (t_isIn (fun r4 b4 h4 => ⟨fun _ => h _ (fun z => absurd rfl z), fun c2 => h _ (fun _ => ⟨h1 c1, ?_⟩)⟩))⟩)
  have := (h4 c2).1
  rw [ii_0] at this
  exact this
theorem mod3 {v : Int32} (h : 0 ≤ v.toInt) : (0 ≤ (v - v / (3 : Int32) * (3 : Int32)).toInt ∧ (v - v / (3 : Int32) * (3 : Int32)).toInt ≤ 2) ∧ 0 ≤ (v / (3 : Int32)).toInt := by
  have b : v.toInt < 2147483648 := v.toInt_lt
  have k1 : (v / (3 : Int32)).toInt = v.toInt / 3 := ii_d rfl rfl h (by decide)
  have k2 : (v / (3 : Int32) * (3 : Int32)).toInt = v.toInt / 3 * 3 := ii_m k1 rfl (by omega) (by omega)
  have k3 : (v - v / (3 : Int32) * (3 : Int32)).toInt = v.toInt - v.toInt / 3 * 3 := ii_s rfl k2 (by omega) (by omega)
  exact ⟨by omega, by omega⟩
theorem t_setAfter {a1 a2 a3 : Int32} (hm : M1 a1) (hI : RI μ) (h3 : 0 ≤ a3.toInt) (h : ∀ r : Int32, Q r) : wp_X11_setAfter μ a1 a2 a3 Q := by
  have r7 := hm.ri hI
  have L26 : ∀ (v12 v13 v14 v16 : Int32) (K : Int32 → Prop), 0 ≤ v13.toInt → (∀ u, K u) → ∀ (n : Nat) (v10 v11 : Int32), ((7 : Int) - v10.toInt).toNat < n → 0 ≤ v10.toInt → wpl_X11_setAfter_26 μ v12 v13 v14 a1 v16 K n v10 v11 := by
    intro v12 v13 v14 v16 K g hK n
    induction n with
    | zero => intro v10 v11 hk; exact absurd hk (Nat.not_lt_zero _)
    | succ n ih =>
      intro v10 v11 hk h0
      refine ⟨hm.in4, fun _ => hK _, fun c => ?_⟩
      have c1 := nle c
      have e1 := inc_i c
      exact ⟨fun _ => ih _ _ (by omega) (by omega), fun _ => t_keyv hm ⟨h0, by omega⟩ (mod3 g).1 (fun r hr => ⟨hr, ih _ _ (by omega) (by omega)⟩)⟩
  have L14 : ∀ (n : Nat) (v3 v4 v5 : Int32), (a2.toInt - v3.toInt).toNat < n → 0 ≤ v4.toInt → wpl_X11_setAfter_14 μ a1 a2 Q n v3 v4 v5 := by
    intro n
    induction n with
    | zero => intro v3 v4 v5 hk; exact absurd hk (Nat.not_lt_zero _)
    | succ n ih =>
      intro v3 v4 v5 hk h0
      refine ⟨fun _ => h _, fun c => ?_⟩
      have c1 := nle c
      have e1 := inc_i c
      exact ⟨_, L26 v3 v4 v5 a2 _ h0 (fun u => ih _ _ _ (by omega) (mod3 h0).2) _ 0 0 (Nat.lt_succ_self _) (by decide)⟩
  exact ⟨hm.in4, _, L14 _ 0 a3 _ (Nat.lt_succ_self _) h3⟩
theorem t_takes {a1 a2 a3 : Int32} (hI : RI μ) (h : ∀ (r : Int32) (μ9 : TMem), FQ μ μ9 → Qm r μ9) : wp_X11_takes μ a1 a2 a3 Qm := by
  refine t_isOne (fun r1 b1 h1 => t_isWord (fun r2 h2 => t_isThrown hI (fun r4 μ3 b4 f3 h4 => ⟨fun _ => h _ _ f3, fun c => ?_⟩)))
  have hm := h1 (h4 c).1
  exact t_setAfter hm f3.1 (h2 (h4 c).2).2 (fun r8 => ⟨hm.in4, fun _ => h _ _ f3, fun _ => h _ _ f3⟩)
end RMA
