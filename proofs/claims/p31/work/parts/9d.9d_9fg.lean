/-! part 9d.rm1 -/
section
section RMA
/-- how many states, of each machine of the reference's -/
def RI (μ : TMem) : Prop := ∀ i : Nat, i < 4 → 1 ≤ (μ 1 i).toInt ∧ (μ 1 i).toInt ≤ 7
def FQ (μ μ9 : TMem) : Prop := RI μ9 ∧ μ9 0 6 = μ 0 6
def M1 (a : Int32) : Prop := 0 ≤ a.toInt ∧ a.toInt ≤ 3
theorem FQ.rf {μ : TMem} (h : RI μ) : FQ μ μ := ⟨h, rfl⟩
theorem FQ.trans {a b c : TMem} (h1 : FQ a b) (h2 : FQ b c) : FQ a c := ⟨h2.1, h2.2.trans h1.2⟩
theorem FQ.st {a b : TMem} {k i : Nat} {v : Int32} (h : FQ a b) (hk : k ≠ 1) (h6 : k ≠ 0 ∨ i ≠ 6) : FQ a (tms b k i v) := by
  refine ⟨fun j hj => ?_, ?_⟩
  · have := h.1 j hj
    simpa [tms, Ne.symm hk] using this
  · rw [← h.2]
    by_cases e : 0 = k
    · subst e
      have h7 : 6 ≠ i := fun z => h6.elim (fun w => w rfl) (fun w => w z.symm)
      simp [tms, upd, h7]
    · simp [tms, e]
theorem FQ.m {a b : TMem} {i : Nat} {v : Int32} (h : FQ a b) (hv : 1 ≤ v.toInt ∧ v.toInt ≤ 7) : FQ a (tms b 1 i v) := by
  refine ⟨fun j hj => ?_, ?_⟩
  · have := h.1 j hj
    by_cases e : j = i
    · subst e
      simpa [tms, upd] using hv
    · simpa [tms, upd, e] using this
  · rw [← h.2]
    simp [tms]
theorem M1.in4 {a : Int32} (h : M1 a) : vp_in a 4 := vin (by have := h.1; have := h.2; omega)
theorem M1.cl {a : Int32} (h : M1 a) : a.toNatClampNeg < 4 := by
  have := h.1
  have := h.2
  rw [ii_cl]
  omega
theorem M1.ri {μ : TMem} {a : Int32} (h : M1 a) (hI : RI μ) : 1 ≤ (μ 1 a.toNatClampNeg).toInt ∧ (μ 1 a.toNatClampNeg).toInt ≤ 7 := hI _ h.cl
theorem in84 {x : Int32} (h0 : 0 ≤ x.toInt) (h : x.toInt < 84) : vp_in x 84 := vin (by omega)
variable {Q : Int32 → Prop} {Qm : Int32 → TMem → Prop} {Qv : TMem → Prop} {μ : TMem}
theorem t_key {a0 a1 a2 : Int32} (h0 : M1 a0) (h1 : 0 ≤ a1.toInt ∧ a1.toInt ≤ 6) (h2 : 0 ≤ a2.toInt ∧ a2.toInt ≤ 2) (h : ∀ r : Int32, r.toInt = 21 * a0.toInt + 3 * a1.toInt + a2.toInt → Q r) : wp_X11_key a0 a1 a2 Q := by
  obtain ⟨h3, h4⟩ := h0
  have k : (((a0 * (7 : Int32)) + a1) * (3 : Int32) + a2).toInt = (a0.toInt * 7 + a1.toInt) * 3 + a2.toInt := ii_a (ii_m (ii_a (ii_m rfl rfl (by omega) (by omega)) rfl (by omega) (by omega)) rfl (by omega) (by omega)) rfl (by omega) (by omega)
  exact h _ (k.trans (by omega))
theorem t_isIn {a0 a1 a2 : Int32} (h : ∀ r : Int32, isB r → (r ≠ 0 → a1.toInt ≤ a0.toInt ∧ a0.toInt ≤ a2.toInt) → Q r) : wp_X11_isIn a0 a1 a2 Q := by
  refine ⟨fun _ => h _ (Or.inl rfl) (fun z => absurd rfl z), fun c1 => ⟨fun _ => h _ (Or.inl rfl) (fun z => absurd rfl z), fun c2 => h _ (Or.inr rfl) (fun _ => ?_)⟩⟩
  rw [l_lt] at c1 c2
  omega
theorem t_isOne {a0 : Int32} (h : ∀ r : Int32, isB r → (r ≠ 0 → M1 a0) → Q r) : wp_X11_isOne a0 Q :=
  t_isIn (fun r b hr => ⟨b, h r b hr⟩)
theorem t_isThrown {a1 a2 : Int32} (hI : RI μ) (h : ∀ (r : Int32) (μ9 : TMem), isB r → FQ μ μ9 → (r = 0 → a1 ≠ 0 ∧ a2 ≠ 0) → Qm r μ9) : wp_X11_isThrown μ a1 a2 Qm := by
  have hf : ∀ j, FQ μ (tms μ 0 7 j) := fun j => (FQ.rf hI).st (by decide) (Or.inr (by decide))
  have bad : ∀ j : Int32, ¬ j ≤ 0 → (((tms μ 0 7 j) 0 7) ≤ 0 → Qm (0 : Int32) (tms μ 0 7 j)) ∧ (¬ ((tms μ 0 7 j) 0 7) ≤ 0 → Qm (1 : Int32) (tms μ 0 7 j)) := fun j hj => by
    rw [show (tms μ 0 7 j) 0 7 = j by simp [tms, upd]]
    exact ⟨fun z => absurd z hj, fun _ => h _ _ (Or.inr rfl) (hf j) (fun z => absurd z (by decide))⟩
  intro J hJ
  refine ⟨fun c1 => ⟨fun c2 => hJ _ ?_, fun _ => hJ _ (bad _ (by decide))⟩, fun _ => hJ _ (bad _ (by decide))⟩
  rw [show (tms μ 0 7 (0 : Int32)) 0 7 = 0 by simp [tms, upd]]
  exact ⟨fun _ => h _ _ (Or.inl rfl) (hf _) (fun _ => ⟨c1, c2⟩), fun z => absurd (by decide) z⟩
theorem t_isCrowded {na1 : Nat} {fa1 : Nat → Int32} {a2 : Int32} (hI : RI μ) (h : ∀ μ9 : TMem, FQ μ μ9 → Qm 0 μ9) : wp_X11_isCrowded μ na1 fa1 a2 Qm := h _ ((FQ.rf hI).st (by decide) (Or.inr (by decide)))
theorem t_isCrowded_n {a2 : Int32} (hI : RI μ) (h : ∀ μ9 : TMem, FQ μ μ9 → Qm 1 μ9) : wp_X11_isCrowded_n μ a2 Qm := h _ ((FQ.rf hI).st (by decide) (Or.inr (by decide)))
theorem t_isState {a1 a2 : Int32} (hm : M1 a1) (hI : RI μ) (h : ∀ r : Int32, isB r → (r ≠ 0 → 0 ≤ a2.toInt ∧ a2.toInt ≤ 6) → Q r) : wp_X11_isState μ a1 a2 Q := by
  refine ⟨hm.in4, t_isIn (fun r b hr => ⟨b, h r b (fun z => ?_)⟩)⟩
  have h1 := hr z
  have h2 := hm.ri hI
  have h3 : ((μ 1 a1.toNatClampNeg) - (1 : Int32)).toInt = (μ 1 a1.toNatClampNeg).toInt - 1 := ii_s rfl rfl (by omega) (by omega)
  rw [ii_0] at h1
  omega
theorem t_did {a1 : Int32} (hI : RI μ) (h : ∀ (r : Int32) (μ9 : TMem), FQ μ μ9 → Qm r μ9) : wp_X11_did μ a1 Qm := h _ _ ((FQ.rf hI).st (by decide) (Or.inr (by decide)))
theorem t_refuse (hI : RI μ) (h : ∀ (r : Int32) (μ9 : TMem), FQ μ μ9 → Qm r μ9) : wp_X11_refuse μ Qm := h _ _ ((FQ.rf hI).st (by decide) (Or.inr (by decide)))
theorem t_bits {a : Int32} (h : ∀ r : Int32, Q r) : wp_J6_bitCount_0f7a4 a Q := h _
theorem t_arrowsOf {a1 : Int32} (hm : M1 a1) (h : ∀ r : Int32, Q r) : wp_X11_arrowsOf μ a1 Q := by
  obtain ⟨h1, h2⟩ := hm
  have L : ∀ (n : Nat) (v3 v4 : Int32), (21 * a1.toInt + 21 - v3.toInt).toNat < n → 0 ≤ v3.toInt → wpl_X11_arrowsOf_9 μ a1 Q n v3 v4 := by
    intro n
    induction n with
    | zero => intro v3 v4 hk; exact absurd hk (Nat.not_lt_zero _)
    | succ n ih =>
      intro v3 v4 hk h0
      refine t_key ⟨h1, h2⟩ ⟨by decide, by decide⟩ ⟨by decide, by decide⟩ (fun r6 hr => ?_)
      rw [ii_0] at hr
      have k : (r6 + (21 : Int32)).toInt = 21 * a1.toInt + 21 := by
        have : (r6 + (21 : Int32)).toInt = r6.toInt + 21 := ii_a rfl rfl (by omega) (by omega)
        omega
      refine ⟨fun _ => h _, fun c => ?_⟩
      have c1 := nle c
      have e1 := inc_i c
      exact ⟨in84 h0 (by omega), t_bits (fun r9 => ih _ _ (by omega) (by omega))⟩
  exact t_key ⟨h1, h2⟩ ⟨by decide, by decide⟩ ⟨by decide, by decide⟩ (fun r1 hr => ⟨_, L _ r1 0 (Nat.lt_succ_self _) (by rw [ii_0] at hr; omega)⟩)
theorem t_isPlain {a1 : Int32} (hm : M1 a1) (hI : RI μ) (h : ∀ r : Int32, isB r → Q r) : wp_X11_isPlain μ a1 Q := by
  have hr := hm.ri hI
  have b1 : ∀ v : Int32, isB v → isB (v &&& (0 : Int32)) := fun v hv => by rcases hv with rfl | rfl <;> exact Or.inl rfl
  have b2 : ∀ v : Int32, isB v → isB (v &&& (1 : Int32)) := fun v hv => by
    rcases hv with rfl | rfl
    · exact Or.inl rfl
    · exact Or.inr rfl
  have L34 : ∀ (v14 : Int32) (K : Int32 → Prop), 0 ≤ v14.toInt → v14.toInt ≤ 6 → (∀ u, isB u → K u) → ∀ (n : Nat) (v13 v15 : Int32), ((3 : Int32).toInt - v13.toInt).toNat < n → 0 ≤ v13.toInt → isB v15 → wpl_X11_isPlain_34 μ v14 a1 K n v13 v15 := by
    intro v14 K h1 h2 hK n
    induction n with
    | zero => intro v13 v15 hk; exact absurd hk (Nat.not_lt_zero _)
    | succ n ih =>
      intro v13 v15 hk h0 hb
      refine ⟨fun _ => hK _ hb, fun c => ?_⟩
      have c1 := nle c
      have e1 := inc_i c
      rw [show (3 : Int32).toInt = 3 from rfl] at c1 hk
      refine t_key hm ⟨h1, h2⟩ ⟨h0, by omega⟩ (fun r18 hr18 => ⟨in84 (by have := hm.1; omega) (by have := hm.2; omega), t_bits (fun r20 => ⟨fun _ => ih _ _ (by rw [show (3 : Int32).toInt = 3 from rfl]; omega) (by omega) (b1 _ hb), fun _ => ih _ _ (by rw [show (3 : Int32).toInt = 3 from rfl]; omega) (by omega) (b2 _ hb)⟩)⟩)
  have L21 : ∀ (n : Nat) (v6 v7 : Int32), ((μ 1 a1.toNatClampNeg).toInt - v6.toInt).toNat < n → 0 ≤ v6.toInt → isB v7 → wpl_X11_isPlain_21 μ a1 Q n v6 v7 := by
    intro n
    induction n with
    | zero => intro v6 v7 hk; exact absurd hk (Nat.not_lt_zero _)
    | succ n ih =>
      intro v6 v7 hk h0 hb
      refine ⟨hm.in4, fun _ => ⟨hb, h _ hb⟩, fun c => ?_⟩
      have c1 := nle c
      have e1 := inc_i c
      exact ⟨_, L34 v6 _ h0 (by omega) (fun u hu => ih _ _ (by omega) (by omega) hu) _ 0 v7 (Nat.lt_succ_self _) (by decide) hb⟩
  refine ⟨hm.in4, t_bits (fun r2 => ?_)⟩
  intro J hJ
  exact ⟨fun _ => hJ _ ⟨_, L21 _ 0 _ (Nat.lt_succ_self _) (by decide) (Or.inl rfl)⟩, fun _ => hJ _ ⟨_, L21 _ 0 _ (Nat.lt_succ_self _) (by decide) (Or.inr rfl)⟩⟩
theorem t_clear {a1 a2 : Int32} (hm : M1 a1) (hI : RI μ) (ha : 1 ≤ a2.toInt ∧ a2.toInt ≤ 7) (h : ∀ μ9 : TMem, FQ μ μ9 → (∀ j, j ≠ a1.toNatClampNeg → μ9 1 j = μ 1 j) → μ9 1 a1.toNatClampNeg = a2 → Qv μ9) : wp_X11_clear μ a1 a2 Qv := by
  have L : ∀ (μ0 : TMem), FQ μ μ0 → (∀ j, j ≠ a1.toNatClampNeg → μ0 1 j = μ 1 j) → μ0 1 a1.toNatClampNeg = a2 → ∀ (n : Nat) (v5 : Int32) (μ7 : TMem), ((21 : Int32).toInt - v5.toInt).toNat < n → 0 ≤ v5.toInt → FQ μ μ7 → μ7 1 = μ0 1 → wpl_X11_clear_23 a1 Qv n v5 μ7 := by
    intro μ0 f0 g1 g2 n
    induction n with
    | zero => intro v5 μ7 hk; exact absurd hk (Nat.not_lt_zero _)
    | succ n ih =>
      intro v5 μ7 hk h0 f7 e7
      refine ⟨fun _ => h _ f7 (fun j hj => by rw [e7]; exact g1 j hj) (by rw [e7]; exact g2), fun c => ?_⟩
      have c1 := nle c
      have e1 := inc_i c
      rw [show (21 : Int32).toInt = 21 from rfl] at c1 hk
      refine t_key hm ⟨by decide, by decide⟩ ⟨by decide, by decide⟩ (fun r9 hr => ?_)
      rw [ii_0] at hr
      have := hm.1
      have := hm.2
      have k : (r9 + v5).toInt = r9.toInt + v5.toInt := ii_a rfl rfl (by omega) (by omega)
      exact ⟨in84 (by omega) (by omega), ih _ _ (by rw [show (21 : Int32).toInt = 21 from rfl]; omega) (by omega) (f7.st (by decide) (Or.inl (by decide))) (by rw [← e7]; rfl)⟩
  refine ⟨hm.in4, hm.in4, hm.in4, _, L _ ((((FQ.rf hI).m ha).st (by decide) (Or.inl (by decide))).st (by decide) (Or.inl (by decide))) (fun j hj => by simp [tms, upd, hj]) (by simp [tms, upd]) _ 0 _ (Nat.lt_succ_self _) (by decide) ((((FQ.rf hI).m ha).st (by decide) (Or.inl (by decide))).st (by decide) (Or.inl (by decide))) rfl⟩
theorem t_begin {a1 a2 : Int32} (hI : RI μ) (h : ∀ (r : Int32) (μ9 : TMem), FQ μ μ9 → Qm r μ9) : wp_X11_begin μ a1 a2 Qm := by
  refine t_isOne (fun r1 b1 h1 => t_isIn (fun r2 b2 h2 => t_isThrown hI (fun r4 μ3 b4 f3 h4 => ⟨fun c => ?_, fun _ => h _ _ f3⟩)))
  obtain ⟨c1, c2⟩ := h4 c
  have hm := h1 c1
  have ha := h2 c2
  exact t_arrowsOf hm (fun r8 => t_clear hm f3.1 ha (fun μ9 f9 _ _ => t_did f9.1 (fun r11 μ10 f10 => h _ _ ((f3.trans f9).trans f10))))
theorem t_isNoArrow {a1 a2 a3 a4 : Int32} (hI : RI μ) (h : ∀ (r : Int32) (μ9 : TMem), isB r → FQ μ μ9 → (r = 0 → M1 a1 ∧ (0 ≤ a2.toInt ∧ a2.toInt ≤ 6) ∧ (0 ≤ a4.toInt ∧ a4.toInt ≤ 6) ∧ (0 ≤ a3.toInt ∧ a3.toInt ≤ 2)) → Qm r μ9) : wp_X11_isNoArrow μ a1 a2 a3 a4 Qm := by
  refine t_isOne (fun r1 b1 h1 => ?_)
  intro J hJ
  have key : ∀ j3 : Int32, (j3 ≠ 0 → M1 a1 ∧ (0 ≤ a2.toInt ∧ a2.toInt ≤ 6) ∧ (0 ≤ a4.toInt ∧ a4.toInt ≤ 6)) → J j3 := fun j3 hj => hJ j3 (t_isIn (fun r4 b4 h4 => t_isThrown hI (fun r6 μ5 b6 f5 h6 => ⟨b6, h _ _ b6 f5 (fun c => by
    obtain ⟨c1, c2⟩ := h6 c
    obtain ⟨x1, x2, x3⟩ := hj c1
    exact ⟨x1, x2, x3, h4 c2⟩)⟩)))
  refine ⟨fun _ => key 0 (fun z => absurd rfl z), fun c1 => t_isState (h1 c1) hI (fun r11 b11 h11 => ⟨fun _ => key 0 (fun z => absurd rfl z), fun c2 => t_isState (h1 c1) hI (fun r15 b15 h15 => ⟨fun _ => key 0 (fun z => absurd rfl z), fun c3 => key 1 (fun _ => ⟨h1 c1, h11 c2, h15 c3⟩)⟩)⟩)⟩
theorem t_arrow {a1 a2 a3 a4 a5 : Int32} (hI : RI μ) (h : ∀ (r : Int32) (μ9 : TMem), FQ μ μ9 → Qm r μ9) : wp_X11_arrow μ a1 a2 a3 a4 a5 Qm := by
  refine t_isNoArrow hI (fun r2 μ1 b2 f1 h2 => ⟨fun c => ?_, fun _ => h _ _ f1⟩)
  obtain ⟨hm, hf, ht, hs⟩ := h2 c
  refine t_key hm hf hs (fun r4 hr => ?_)
  have hv : vp_in r4 84 := in84 (by have := hm.1; omega) (by have := hm.2; omega)
  refine ⟨hv, ?_⟩
  intro J hJ
  have key : ∀ j, J j := fun j => hJ j ⟨hv, hv, fun _ => t_did (f1.st (by decide) (Or.inl (by decide))).1 (fun r μ9 f9 => h _ _ ((f1.st (by decide) (Or.inl (by decide))).trans f9)), fun _ => t_did (f1.st (by decide) (Or.inl (by decide))).1 (fun r μ9 f9 => h _ _ ((f1.st (by decide) (Or.inl (by decide))).trans f9))⟩
  exact ⟨fun _ => key _, fun _ => key _⟩
theorem t_lead {a1 a2 a3 a4 : Int32} (hI : RI μ) (h : ∀ (r : Int32) (μ9 : TMem), FQ μ μ9 → Qm r μ9) : wp_X11_lead μ a1 a2 a3 a4 Qm := by
  refine t_isNoArrow hI (fun r2 μ1 b2 f1 h2 => ⟨fun c => ?_, fun _ => h _ _ f1⟩)
  obtain ⟨hm, hf, ht, hs⟩ := h2 c
  refine t_key hm hf hs (fun r4 hr => ?_)
  have hv : vp_in r4 84 := in84 (by have := hm.1; omega) (by have := hm.2; omega)
  exact ⟨hv, hv, t_bits (fun r7 => t_did (f1.st (by decide) (Or.inl (by decide))).1 (fun r μ9 f9 => h _ _ ((f1.st (by decide) (Or.inl (by decide))).trans f9)))⟩
theorem b_0 (v : Int32) : isB (v &&& (0 : Int32)) := Or.inl (by apply Int32.toBitVec_inj.mp; simp)
theorem b_1 {v : Int32} (hv : isB v) : isB (v &&& (1 : Int32)) := by
  rcases hv with rfl | rfl
  · exact Or.inl rfl
  · exact Or.inr rfl
theorem t_thr {a1 a2 : Int32} {B : TMem → Prop} (hI : RI μ) (hq : ∀ μ9, FQ μ μ9 → Qm 0 μ9) (hb : ∀ μ3, FQ μ μ3 → a1 ≠ 0 → a2 ≠ 0 → B μ3) : wp_X11_isThrown μ a1 a2 (fun r μ3 => (r = 0 → B μ3) ∧ (¬ r = 0 → Qm 0 μ3)) :=
  t_isThrown hI (fun r μ3 b f h0 => ⟨fun c => hb μ3 f (h0 c).1 (h0 c).2, fun _ => hq _ f⟩)
theorem t_two {a1 a2 : Int32} {B : Int32 → Prop} (h : ∀ j : Int32, (j ≠ 0 → M1 a1 ∧ M1 a2) → B j) : wp_X11_isOne a1 (fun r1 => ∀ J2 : Int32 → Prop, (∀ j3 : Int32, B j3 → J2 j3) → ((r1 = 0 → J2 0) ∧ (¬ r1 = 0 → wp_X11_isOne a2 (fun r31 => (r31 = 0 → J2 0) ∧ (¬ r31 = 0 → J2 1))))) := by
  refine t_isOne (fun r1 b1 h1 => ?_)
  intro J hJ
  exact ⟨fun _ => hJ _ (h 0 (fun z => absurd rfl z)), fun c1 => t_isOne (fun r2 b2 h2 => ⟨fun _ => hJ _ (h 0 (fun z => absurd rfl z)), fun c2 => hJ _ (h 1 (fun _ => ⟨h1 c1, h2 c2⟩))⟩)⟩
theorem t_ost {a1 a2 : Int32} {B : Int32 → Prop} (hI : RI μ) (h : ∀ j : Int32, (j ≠ 0 → M1 a1 ∧ 0 ≤ a2.toInt ∧ a2.toInt ≤ 6) → B j) : wp_X11_isOne a1 (fun r1 => ∀ J2 : Int32 → Prop, (∀ j3 : Int32, B j3 → J2 j3) → ((r1 = 0 → J2 0) ∧ (¬ r1 = 0 → wp_X11_isState μ a1 a2 (fun r31 => (r31 = 0 → J2 0) ∧ (¬ r31 = 0 → J2 1))))) := by
  refine t_isOne (fun r1 b1 h1 => ?_)
  intro J hJ
  exact ⟨fun _ => hJ _ (h 0 (fun z => absurd rfl z)), fun c1 => t_isState (h1 c1) hI (fun r2 b2 h2 => ⟨fun _ => hJ _ (h 0 (fun z => absurd rfl z)), fun c2 => hJ _ (h 1 (fun _ => ⟨h1 c1, h2 c2⟩))⟩)⟩
theorem t_key0 {a : Int32} (hm : M1 a) (h : ∀ r : Int32, r.toInt = 21 * a.toInt → (∀ v : Int32, 0 ≤ v.toInt → v.toInt < 21 → vp_in (r + v) 84) → Q r) : wp_X11_key a 0 0 Q := by
  refine t_key hm ⟨by decide, by decide⟩ ⟨by decide, by decide⟩ (fun r hr => ?_)
  rw [ii_0] at hr
  have h1 := hm.1
  have h2 := hm.2
  refine h r (by omega) (fun v h0 h3 => ?_)
  have k : (r + v).toInt = r.toInt + v.toInt := ii_a rfl rfl (by omega) (by omega)
  exact in84 (by omega) (by omega)
theorem t_keyv {a b c : Int32} (hm : M1 a) (h1 : 0 ≤ b.toInt ∧ b.toInt ≤ 6) (h2 : 0 ≤ c.toInt ∧ c.toInt ≤ 2) (h : ∀ r : Int32, vp_in r 84 → Q r) : wp_X11_key a b c Q :=
  t_key hm h1 h2 (fun r hr => h r (in84 (by have := hm.1; omega) (by have := hm.2; omega)))
theorem t_mark {a1 a2 a3 a4 : Int32} (hI : RI μ) (h : ∀ (r : Int32) (μ9 : TMem), FQ μ μ9 → Qm r μ9) : wp_X11_mark μ a1 a2 a3 a4 Qm := by
  have go : ∀ (k : Nat) (v w : Int32) (μ3 : TMem), k = 2 ∨ k = 3 → FQ μ μ3 → wp_X11_did (tms μ3 k a1.toNatClampNeg v) w (fun (r : Int32) (μ9 : TMem) => Qm r μ9) := fun k v w μ3 hk f3 => by
    have f := f3.st (k := k) (i := a1.toNatClampNeg) (v := v) (by omega) (Or.inl (by omega))
    exact t_did f.1 (fun r μ9 f9 => h _ _ (f.trans f9))
  have no : ∀ (r4 : Int32) (μ3 : TMem) {A : Prop}, FQ μ μ3 → (r4 = 0 → (0 : Int32) ≠ 0 ∧ (1 : Int32) ≠ 0) → (r4 = 0 → A) ∧ (¬ r4 = 0 → Qm 0 μ3) := fun r4 μ3 A f h4 => ⟨fun c => absurd rfl (h4 c).1, fun _ => h _ _ f⟩
  refine t_isOne (fun r1 b1 h1 => ⟨fun c1 => t_isThrown hI (fun r4 μ3 b4 f3 h4 => no r4 μ3 f3 h4), fun c1 => ?_⟩)
  have hv := (h1 c1).in4
  refine t_isState (h1 c1) hI (fun r2 b2 h2 => ⟨fun c2 => t_isThrown hI (fun r4 μ3 b4 f3 h4 => no r4 μ3 f3 h4), fun c2 => t_isThrown hI (fun r4 μ3 b4 f3 h4 => ⟨fun c => ?_, fun _ => h _ _ f3⟩)⟩)
  refine ⟨fun _ => ⟨hv, fun _ => ⟨hv, hv, fun _ => ?_, fun _ => ?_⟩, fun _ => ⟨hv, hv, fun _ => ?_, fun _ => ?_⟩⟩, fun _ => ⟨hv, fun _ => ⟨hv, hv, fun _ => ?_, fun _ => ?_⟩, fun _ => ⟨hv, hv, fun _ => ?_, fun _ => ?_⟩⟩⟩
  · exact go 2 _ _ _ (Or.inl rfl) f3
  · exact go 2 _ _ _ (Or.inl rfl) f3
  · exact go 2 _ _ _ (Or.inl rfl) f3
  · exact go 2 _ _ _ (Or.inl rfl) f3
  · exact go 3 _ _ _ (Or.inr rfl) f3
  · exact go 3 _ _ _ (Or.inr rfl) f3
  · exact go 3 _ _ _ (Or.inr rfl) f3
  · exact go 3 _ _ _ (Or.inr rfl) f3
theorem t_sow79 (v28 v29 v31 v32 v33 : Int32) (K : Int32 → TMem → Prop) (h28 : 0 ≤ v28.toInt ∧ v28.toInt ≤ 2) (h29 : 0 ≤ v29.toInt ∧ v29.toInt ≤ 6) (h31 : M1 v31) (h32 : 1 ≤ v32.toInt ∧ v32.toInt ≤ 7) (h33 : 0 ≤ v33.toInt ∧ v33.toInt ≤ 6) (μ0 : TMem) (hK : ∀ u μ9, FQ μ0 μ9 → K u μ9) : ∀ (n : Nat) (v27 v30 : Int32) (μ34 : TMem), ((7 : Int) - v27.toInt).toNat < n → FQ μ0 μ34 → wpl_X11_sow_79 v28 v29 v31 v32 v33 K n v27 v30 μ34 := by
  have d1 : ¬ (v33 + (1 : Int32)) = 0 := by
    intro e
    have := congrArg Int32.toInt e
    rw [show (v33 + (1 : Int32)).toInt = v33.toInt + 1 from ii_a rfl rfl (by omega) (by omega), ii_0] at this
    omega
  have d2 : ¬ v32 = 0 := by
    intro e
    rw [e, ii_0] at h32
    omega
  intro n
  induction n with
  | zero => intro v27 v30 μ34 hk; exact absurd hk (Nat.not_lt_zero _)
  | succ n ih =>
    intro v27 v30 μ34 hk f
    intro J hJ
    have key : ∀ j : Int32, j.toInt ≤ 7 → J j := by
      intro j hj
      refine hJ j ⟨fun _ => hK _ _ f, fun c => ?_⟩
      have c1 := nle c
      have e1 := inc_i c
      refine ⟨fun _ => ⟨d1, fun _ => ih _ _ _ (by omega) f, fun _ => t_keyv h31 h29 h28 (fun r hr => ⟨hr, hr, ih _ _ _ (by omega) (f.st (by decide) (Or.inl (by decide)))⟩)⟩, fun _ => t_keyv h31 h29 h28 (fun r hr => ⟨d2, hr, ih _ _ _ (by omega) (f.st (by decide) (Or.inl (by decide)))⟩)⟩
    exact ⟨fun _ => key _ h32.2, fun _ => key 1 (by decide)⟩
theorem t_sow61 (a1 a3 a4 : Int32) (K : Int32 → TMem → Prop) (h1 : M1 a1) (h3 : 1 ≤ a3.toInt ∧ a3.toInt ≤ 7) (h4 : 0 ≤ a4.toInt ∧ a4.toInt ≤ 6) (μ0 : TMem) (hK : ∀ u μ9, FQ μ0 μ9 → K u μ9) : ∀ (n : Nat) (v10 v11 : Int32) (μ15 : TMem), ((7 : Int) - v10.toInt).toNat < n → 0 ≤ v10.toInt → FQ μ0 μ15 → wpl_X11_sow_61 a1 a3 a4 K n v10 v11 μ15 := by
  have L70 : ∀ (v19 : Int32) (K2 : Int32 → TMem → Prop), 0 ≤ v19.toInt → v19.toInt ≤ 6 → (∀ u μ9, FQ μ0 μ9 → K2 u μ9) → ∀ (n : Nat) (v18 v20 : Int32) (μ24 : TMem), ((3 : Int) - v18.toInt).toNat < n → 0 ≤ v18.toInt → FQ μ0 μ24 → wpl_X11_sow_70 v19 a1 a3 a4 K2 n v18 v20 μ24 := by
    intro v19 K2 g1 g2 hK2 n
    induction n with
    | zero => intro v18 v20 μ24 hk; exact absurd hk (Nat.not_lt_zero _)
    | succ n ih =>
      intro v18 v20 μ24 hk h0 f
      refine ⟨fun _ => hK2 _ _ f, fun c => ?_⟩
      have c1 := nle c
      have e1 := inc_i c
      rw [show (3 : Int32).toInt = 3 from rfl] at c1
      exact ⟨_, t_sow79 v18 v19 a1 a3 a4 _ ⟨h0, by omega⟩ ⟨g1, g2⟩ h1 h3 h4 μ0 (fun u μ9 f9 => ih _ _ _ (by omega) (by omega) f9) _ 0 v20 μ24 (Nat.lt_succ_self _) f⟩
  intro n
  induction n with
  | zero => intro v10 v11 μ15 hk; exact absurd hk (Nat.not_lt_zero _)
  | succ n ih =>
    intro v10 v11 μ15 hk h0 f
    refine ⟨fun _ => hK _ _ f, fun c => ?_⟩
    have c1 := nle c
    have e1 := inc_i c
    exact ⟨_, L70 v10 _ h0 (by omega) (fun u μ9 f9 => ih _ _ _ (by omega) (by omega) f9) _ 0 v11 μ15 (Nat.lt_succ_self _) (by decide) f⟩
theorem t_sow193 (a1 a3 : Int32) (K : TMem → Prop) (h1 : M1 a1) (h3 : 1 ≤ a3.toInt ∧ a3.toInt ≤ 7) (μ0 : TMem) (hK : ∀ μ9, FQ μ0 μ9 → K μ9) : ∀ (n : Nat) (v58 v59 : Int32) (μ62 : TMem), ((7 : Int) - v58.toInt).toNat < n → FQ μ0 μ62 → wpl_X11_sow_193 a1 a3 K n v58 v59 μ62 := by
  intro n
  induction n with
  | zero => intro v58 v59 μ62 hk; exact absurd hk (Nat.not_lt_zero _)
  | succ n ih =>
    intro v58 v59 μ62 hk f
    refine ⟨fun _ => hK _ f, fun c => ?_⟩
    have c1 := nle c
    have e1 := inc_i c
    exact ⟨fun _ => ih _ _ _ (by omega) f, fun _ => ⟨h1.in4, h1.in4, ih _ _ _ (by omega) (f.st (by decide) (Or.inl (by decide)))⟩⟩
theorem t_sow {a1 a2 a3 a4 : Int32} (hI : RI μ) (h : ∀ (r : Int32) (μ9 : TMem), FQ μ μ9 → Qm r μ9) : wp_X11_sow μ a1 a2 a3 a4 Qm := by
  refine t_isOne (fun r1 b1 h1 => t_isIn (fun r2 b2 h2 => ?_))
  intro J hJ
  have key : ∀ j : Int32, (j ≠ 0 → (1 ≤ a3.toInt ∧ a3.toInt ≤ 7) ∧ (0 ≤ a4.toInt ∧ a4.toInt ≤ 6)) → J j := by
    intro j hj
    refine hJ j (t_thr hI (h 0) (fun μ5 f5 c1 c2 => ?_))
    obtain ⟨h3, h4⟩ := hj c2
    have hm := h1 c1
    refine t_clear hm f5.1 h3 (fun μ8 f8 _ _ => ⟨_, t_sow61 a1 a3 a4 _ hm h3 h4 μ8 (fun u μ9 f9 => ⟨_, t_sow193 a1 a3 _ hm h3 μ9 (fun μ10 f10 => t_arrowsOf hm (fun r71 => t_did f10.1 (fun r μ11 f11 => h _ _ ((((f5.trans f8).trans f9).trans f10).trans f11)))) _ 0 u μ9 (Nat.lt_succ_self _) (FQ.rf f9.1)⟩) _ 0 a2 μ8 (Nat.lt_succ_self _) (by decide) (FQ.rf f8.1)⟩)
  have no : J 0 := key 0 (fun z => absurd rfl z)
  exact ⟨fun _ => no, fun _ => t_isIn (fun r3 b3 h3 => ⟨fun _ => no, fun c3 => t_isIn (fun r4 b4 h4 => ⟨fun _ => no, fun c4 => key 1 (fun _ => ⟨h3 c3, h4 c4⟩)⟩)⟩)⟩
theorem t_isSame {a1 a2 : Int32} (h1 : M1 a1) (h2 : M1 a2) (h : ∀ r : Int32, Q r) : wp_X11_isSame μ a1 a2 Q := by
  have L : ∀ (n : Nat) (v6 v7 : Int32), ((21 : Int) - v6.toInt).toNat < n → 0 ≤ v6.toInt → isB v7 → wpl_X11_isSame_54 μ a1 a2 Q n v6 v7 := by
    intro n
    induction n with
    | zero => intro v6 v7 hk; exact absurd hk (Nat.not_lt_zero _)
    | succ n ih =>
      intro v6 v7 hk h0 hb
      refine ⟨fun _ => ⟨hb, h _⟩, fun c => ?_⟩
      have c1 := nle c
      have e1 := inc_i c
      rw [show (21 : Int32).toInt = 21 from rfl] at c1
      exact t_key0 h1 (fun r12 _ g12 => ⟨g12 _ h0 c1, t_key0 h2 (fun r14 _ g14 => ⟨g14 _ h0 c1, fun _ => ih _ _ (by omega) (by omega) (b_0 _), fun _ => ih _ _ (by omega) (by omega) (b_1 hb)⟩)⟩)
  refine ⟨h1.in4, h2.in4, ?_⟩
  intro J hJ
  have key : ∀ j, isB j → J j := fun j hj => hJ j ⟨_, L _ 0 j (Nat.lt_succ_self _) (by decide) hj⟩
  exact ⟨fun _ => key 0 (Or.inl rfl), fun _ => ⟨h1.in4, h2.in4, fun _ => key 0 (Or.inl rfl), fun _ => ⟨h1.in4, h2.in4, fun _ => key 0 (Or.inl rfl), fun _ => key 1 (Or.inr rfl)⟩⟩⟩
theorem t_fin {r9 : Int32} {μ0 μ1 : TMem} (f : FQ μ0 μ1) (h : ∀ (r : Int32) (μ9 : TMem), FQ μ0 μ9 → Qm r μ9) : (r9 = 0 → wp_X11_did μ1 (1 : Int32) (fun r μ9 => Qm r μ9)) ∧ (¬ r9 = 0 → wp_X11_did μ1 (0 : Int32) (fun r μ9 => Qm r μ9)) :=
  ⟨fun _ => t_did f.1 (fun r μ9 f9 => h _ _ (f.trans f9)), fun _ => t_did f.1 (fun r μ9 f9 => h _ _ (f.trans f9))⟩
theorem t_copy {a1 a2 : Int32} (hI : RI μ) (h : ∀ (r : Int32) (μ9 : TMem), FQ μ μ9 → Qm r μ9) : wp_X11_copy μ a1 a2 Qm := by
  have L : ∀ (v18 : Int32) (K : TMem → Prop) (μ0 : TMem), M1 a1 → M1 a2 → (∀ μ9, FQ μ0 μ9 → K μ9) → ∀ (n : Nat) (v17 : Int32) (μ21 : TMem), ((21 : Int) - v17.toInt).toNat < n → 0 ≤ v17.toInt → FQ μ0 μ21 → wpl_X11_copy_75 v18 a1 a2 K n v17 μ21 := by
    intro v18 K μ0 h1 h2 hK n
    induction n with
    | zero => intro v17 μ21 hk; exact absurd hk (Nat.not_lt_zero _)
    | succ n ih =>
      intro v17 μ21 hk h0 f
      refine ⟨fun _ => hK _ f, fun c => ?_⟩
      have c1 := nle c
      have e1 := inc_i c
      rw [show (21 : Int32).toInt = 21 from rfl] at c1
      exact t_key0 h2 (fun r12 _ g12 => t_key0 h1 (fun r14 _ g14 => ⟨g14 _ h0 c1, g12 _ h0 c1, ih _ _ (by omega) (by omega) (f.st (by decide) (Or.inl (by decide)))⟩))
  refine t_two (fun j hj => t_thr hI (h 0) (fun μ4 f4 c1 c2 => ?_))
  obtain ⟨h1, h2⟩ := hj c1
  refine t_isSame h1 h2 (fun r9 => ⟨h1.in4, h2.in4, h1.in4, h2.in4, h1.in4, h2.in4, ?_⟩)
  have f5 := ((f4.m (i := a2.toNatClampNeg) (h1.ri f4.1)).st (k := 2) (i := a2.toNatClampNeg) (v := (tms μ4 1 a2.toNatClampNeg (μ4 1 a1.toNatClampNeg)) 2 a1.toNatClampNeg) (by decide) (Or.inl (by decide))).st (k := 3) (i := a2.toNatClampNeg) (v := (tms (tms μ4 1 a2.toNatClampNeg (μ4 1 a1.toNatClampNeg)) 2 a2.toNatClampNeg ((tms μ4 1 a2.toNatClampNeg (μ4 1 a1.toNatClampNeg)) 2 a1.toNatClampNeg)) 3 a1.toNatClampNeg) (by decide) (Or.inl (by decide))
  exact ⟨_, L r9 _ μ h1 h2 (fun μ9 f9 => t_fin f9 h) _ 0 _ (Nat.lt_succ_self _) (by decide) f5⟩
theorem t_exch1 {a2 a3 : Int32} (h2 : M1 a2) (h3 : M1 a3) (hI : RI μ) (h : ∀ μ9, FQ μ μ9 → Qv μ9) : wp_X11_exchange μ 1 a2 a3 Qv :=
  ⟨h2.in4, h3.in4, h2.in4, h3.in4, h _ (((FQ.rf hI).m (h3.ri hI)).m (h2.ri hI))⟩
theorem t_exchk {k : Nat} {a2 a3 : Int32} (hk : k ≠ 1) (hk0 : k ≠ 0) (h2 : vp_in a2 (ml k)) (h3 : vp_in a3 (ml k)) (hI : RI μ) (h : ∀ μ9, FQ μ μ9 → Qv μ9) : wp_X11_exchange μ k a2 a3 Qv :=
  ⟨h2, h3, h2, h3, h _ (((FQ.rf hI).st hk (Or.inl hk0)).st hk (Or.inl hk0))⟩
theorem t_swap {a1 a2 : Int32} (hI : RI μ) (h : ∀ (r : Int32) (μ9 : TMem), FQ μ μ9 → Qm r μ9) : wp_X11_swap μ a1 a2 Qm := by
  have L : ∀ (v15 : Int32) (K : TMem → Prop) (μ0 : TMem), M1 a1 → M1 a2 → (∀ μ9, FQ μ0 μ9 → K μ9) → ∀ (n : Nat) (v14 : Int32) (μ18 : TMem), ((21 : Int) - v14.toInt).toNat < n → 0 ≤ v14.toInt → FQ μ0 μ18 → wpl_X11_swap_66 v15 a1 a2 K n v14 μ18 := by
    intro v15 K μ0 h1 h2 hK n
    induction n with
    | zero => intro v14 μ18 hk; exact absurd hk (Nat.not_lt_zero _)
    | succ n ih =>
      intro v14 μ18 hk h0 f
      refine ⟨fun _ => hK _ f, fun c => ?_⟩
      have c1 := nle c
      have e1 := inc_i c
      rw [show (21 : Int32).toInt = 21 from rfl] at c1
      exact t_key0 h1 (fun r12 _ g12 => t_key0 h2 (fun r14 _ g14 => t_exchk (by decide) (by decide) (g12 _ h0 c1) (g14 _ h0 c1) f.1 (fun μ9 f9 => ih _ _ (by omega) (by omega) (f.trans f9))))
  refine t_two (fun j hj => t_thr hI (h 0) (fun μ4 f4 c1 c2 => ?_))
  obtain ⟨h1, h2⟩ := hj c1
  exact t_isSame h1 h2 (fun r9 => t_exch1 h1 h2 f4.1 (fun μ5 f5 => t_exchk (by decide) (by decide) h1.in4 h2.in4 f5.1 (fun μ6 f6 => t_exchk (by decide) (by decide) h1.in4 h2.in4 f6.1 (fun μ7 f7 => ⟨_, L r9 _ μ h1 h2 (fun μ9 f9 => t_fin f9 h) _ 0 _ (Nat.lt_succ_self _) (by decide) (((f4.trans f5).trans f6).trans f7)⟩))))
theorem t_turn {a1 : Int32} (hI : RI μ) (h : ∀ (r : Int32) (μ9 : TMem), FQ μ μ9 → Qm r μ9) : wp_X11_turn μ a1 Qm := by
  have L35 : ∀ (f9 : Nat → Int64) (v18 : Int32) (K : TMem → Prop) (μ0 : TMem), M1 a1 → 0 ≤ v18.toInt → v18.toInt ≤ 6 → (∀ μ9, FQ μ0 μ9 → K μ9) → ∀ (n : Nat) (v17 : Int32) (μ20 : TMem), ((3 : Int) - v17.toInt).toNat < n → 0 ≤ v17.toInt → FQ μ0 μ20 → wpl_X11_turn_35 f9 21 v18 a1 K n v17 μ20 := by
    intro f9 v18 K μ0 hm g1 g2 hK n
    induction n with
    | zero => intro v17 μ20 hk; exact absurd hk (Nat.not_lt_zero _)
    | succ n ih =>
      intro v17 μ20 hk h0 f
      refine ⟨fun _ => hK _ f, fun c => ?_⟩
      have c1 := nle c
      have e1 := inc_i c
      rw [show (3 : Int32).toInt = 3 from rfl] at c1
      have r7 := hm.ri f.1
      exact t_keyv hm ⟨g1, g2⟩ ⟨h0, by omega⟩ (fun r hr => ⟨hm.in4, (nx 21 f9 _ _ _ _ (by omega) (by omega) h0 (by omega)).use (fun r24 _ => ⟨hr, ih _ _ (by omega) (by omega) (f.st (by decide) (Or.inl (by decide)))⟩)⟩)
  have L22 : ∀ (f9 : Nat → Int64) (K : TMem → Prop) (μ0 : TMem), M1 a1 → (∀ μ9, FQ μ0 μ9 → K μ9) → ∀ (n : Nat) (v11 : Int32) (μ13 : TMem), ((7 : Int) - v11.toInt).toNat < n → 0 ≤ v11.toInt → FQ μ0 μ13 → wpl_X11_turn_22 f9 21 a1 K n v11 μ13 := by
    intro f9 K μ0 hm hK n
    induction n with
    | zero => intro v11 μ13 hk; exact absurd hk (Nat.not_lt_zero _)
    | succ n ih =>
      intro v11 μ13 hk h0 f
      refine ⟨hm.in4, fun _ => hK _ f, fun c => ?_⟩
      have c1 := nle c
      have e1 := inc_i c
      have r7 := hm.ri f.1
      exact ⟨_, L35 f9 v11 _ μ0 hm h0 (by omega) (fun μ9 f9 => ih _ _ (by omega) (by omega) f9) _ 0 _ (Nat.lt_succ_self _) (by decide) f⟩
  refine t_isOne (fun r1 b1 h1 => t_thr hI (h 0) (fun μ2 f2 c1 c2 => ?_))
  have hm := h1 c1
  obtain ⟨g, hg⟩ := aa μ2 a1 hm.1 hm.2
  refine hg μ2 rfl _ ⟨_, L22 g _ μ hm (fun μ9 f9 => ⟨hm.in4, hm.in4, hm.in4, hm.in4, ?_⟩) _ 0 _ (Nat.lt_succ_self _) (by decide) f2⟩
  have f10 := (f9.st (k := 2) (i := a1.toNatClampNeg) (v := μ9 3 a1.toNatClampNeg) (by decide) (Or.inl (by decide))).st (k := 3) (i := a1.toNatClampNeg) (v := μ9 2 a1.toNatClampNeg) (by decide) (Or.inl (by decide))
  exact t_arrowsOf hm (fun r36 => t_did f10.1 (fun r μ11 f11 => h _ _ (f10.trans f11)))
theorem t_other {a1 : Int32} (hI : RI μ) (h : ∀ (r : Int32) (μ9 : TMem), FQ μ μ9 → Qm r μ9) : wp_X11_other μ a1 Qm := by
  refine t_isOne (fun r1 b1 h1 => t_thr hI (h 0) (fun μ2 f2 c1 c2 => ?_))
  have hm := h1 c1
  refine t_isPlain hm f2.1 (fun r7 _ => ⟨fun _ => ⟨hm.in4, hm.in4, hm.in4, hm.in4, t_bits (fun r13 => ?_)⟩, fun _ => t_refuse f2.1 (fun r μ9 f9 => h _ _ (f2.trans f9))⟩)
  have f10 := f2.st (k := 3) (i := a1.toNatClampNeg) (v := (μ2 3 a1.toNatClampNeg) ^^^ (((1 : Int32) <<< ((μ2 1 a1.toNatClampNeg) &&& 31)) - (1 : Int32))) (by decide) (Or.inl (by decide))
  exact t_did f10.1 (fun r μ11 f11 => h _ _ (f10.trans f11))
theorem t_grow {a1 : Int32} (hI : RI μ) (h : ∀ (r : Int32) (μ9 : TMem), FQ μ μ9 → Qm r μ9) : wp_X11_grow μ a1 Qm := by
  refine t_isOne (fun r1 b1 h1 => t_thr hI (h 0) (fun μ2 f2 c1 c2 => ?_))
  have hm := h1 c1
  have r7 := hm.ri f2.1
  refine ⟨hm.in4, fun c => ⟨hm.in4, hm.in4, hm.in4, ?_⟩, fun _ => t_refuse f2.1 (fun r μ9 f9 => h _ _ (f2.trans f9))⟩
  have c7 : (μ2 1 a1.toNatClampNeg).toInt ≠ 7 := fun e => c (l_eq.mpr (by rw [e]; rfl))
  have e1 : ((μ2 1 a1.toNatClampNeg) + (1 : Int32)).toInt = (μ2 1 a1.toNatClampNeg).toInt + 1 := ii_a rfl rfl (by omega) (by omega)
  have f10 := f2.m (i := a1.toNatClampNeg) (v := (μ2 1 a1.toNatClampNeg) + (1 : Int32)) (by omega)
  exact t_did f10.1 (fun r μ11 f11 => h _ _ (f10.trans f11))
theorem t_drop {a1 a2 : Int32} (hI : RI μ) (h : ∀ (r : Int32) (μ9 : TMem), FQ μ μ9 → Qm r μ9) : wp_X11_drop μ a1 a2 Qm := by
  have L60 : ∀ (v15 : Int32) (K : TMem → Prop) (P : TMem → Prop), (∀ m i v, P m → P (tms m 4 i v)) → M1 a1 → (∀ μ9, P μ9 → K μ9) → ∀ (n : Nat) (v14 : Int32) (μ18 : TMem), ((84 : Int) - v14.toInt).toNat < n → 0 ≤ v14.toInt → P μ18 → wpl_X11_drop_60 v15 a1 a2 K n v14 μ18 := by
    intro v15 K P hP hm hK n
    induction n with
    | zero => intro v14 μ18 hk; exact absurd hk (Nat.not_lt_zero _)
    | succ n ih =>
      intro v14 μ18 hk h0 f
      have h1 := hm.1
      have h2 := hm.2
      refine t_key0 hm (fun r19 e19 _ => ⟨fun _ => hK _ f, fun c => t_key0 hm (fun r21 e21 _ => ?_)⟩)
      have c1 := nle c
      have e1 := inc_i c
      have k19 : (r19 + (21 : Int32)).toInt = r19.toInt + 21 := ii_a rfl rfl (by omega) (by omega)
      have k21 : (r21 + (21 : Int32)).toInt = r21.toInt + 21 := ii_a rfl rfl (by omega) (by omega)
      have k3 : (v14 + (3 : Int32)).toInt = v14.toInt + 3 := ii_a rfl rfl (by omega) (by omega)
      refine ⟨fun _ => ⟨in84 h0 (by omega), ih _ _ (by omega) (by omega) (hP _ _ _ f)⟩, fun c2 => ?_⟩
      have c3 := nle c2
      exact ⟨in84 (by omega) (by omega), in84 h0 (by omega), ih _ _ (by omega) (by omega) (hP _ _ _ f)⟩
  have L119 : ∀ (v30 : Int32) (K : TMem → Prop) (P : TMem → Prop), (∀ m i v, P m → P (tms m 4 i v)) → M1 a1 → (∀ μ9, P μ9 → K μ9) → ∀ (n : Nat) (v29 : Int32) (μ33 : TMem), ((21 : Int) - v29.toInt).toNat < n → 0 ≤ v29.toInt → P μ33 → wpl_X11_drop_119 v30 a1 a2 K n v29 μ33 := by
    intro v30 K P hP hm hK n
    induction n with
    | zero => intro v29 μ33 hk; exact absurd hk (Nat.not_lt_zero _)
    | succ n ih =>
      intro v29 μ33 hk h0 f
      refine ⟨fun _ => hK _ f, fun c => ?_⟩
      have c1 := nle c
      have e1 := inc_i c
      rw [show (21 : Int32).toInt = 21 from rfl] at c1
      exact t_key0 hm (fun r35 _ g35 => t_key0 hm (fun r36 _ g36 => ⟨g36 _ h0 c1, g35 _ h0 c1, ih _ _ (by omega) (by omega) (hP _ _ _ f)⟩))
  refine t_ost hI (fun j hj => t_thr hI (h 0) (fun μ4 f4 c1 c2 => ?_))
  obtain ⟨hm, hs⟩ := hj c1
  have r7 := hm.ri f4.1
  have c7 : (μ4 1 a1.toNatClampNeg) ≠ 1 → (μ4 1 a1.toNatClampNeg).toInt ≠ 1 := fun c e => c (l_eq.mpr (by rw [e]; rfl))
  have hP : ∀ (m : TMem) (i : Nat) (v : Int32), FQ μ m ∧ m 1 = μ4 1 → FQ μ (tms m 4 i v) ∧ (tms m 4 i v) 1 = μ4 1 := fun m i v g => ⟨g.1.st (by decide) (Or.inl (by decide)), g.2⟩
  refine ⟨hm.in4, fun c => t_arrowsOf hm (fun r11 => t_key hm hs ⟨by decide, by decide⟩ (fun r12 e12 => ⟨_, L60 r11 _ (fun m => FQ μ m ∧ m 1 = μ4 1) hP hm (fun μ5 f5 => ⟨_, L119 r11 _ (fun m => FQ μ m ∧ m 1 = μ4 1) hP hm (fun μ6 f6 => ?_) _ 0 _ (Nat.lt_succ_self _) (by decide) f5⟩) _ r12 _ (Nat.lt_succ_self _) (by have := hm.1; rw [ii_0] at e12; omega) ⟨f4, rfl⟩⟩)), fun _ => t_refuse f4.1 (fun r μ9 f9 => h _ _ (f4.trans f9))⟩
  have e8 : ((μ6 1 a1.toNatClampNeg) - (1 : Int32)).toInt = (μ4 1 a1.toNatClampNeg).toInt - 1 := by
    rw [f6.2]
    exact ii_s rfl rfl (by omega) (by omega)
  have c8 := c7 c
  refine ⟨hm.in4, hm.in4, hm.in4, hm.in4, hm.in4, hm.in4, t_arrowsOf hm (fun r52 => ?_)⟩
  have f10 : ∀ x y : Int32, FQ μ (tms (tms (tms μ6 2 a1.toNatClampNeg x) 3 a1.toNatClampNeg y) 1 a1.toNatClampNeg ((μ6 1 a1.toNatClampNeg) - (1 : Int32))) := fun x y => ((f6.1.st (by decide) (Or.inl (by decide))).st (by decide) (Or.inl (by decide))).m (by omega)
  exact t_did (f10 _ _).1 (fun r μ11 f11 => h _ _ ((f10 _ _).trans f11))
theorem t_become {n : Nat} {f : Nat → Int32} {a1 : Int32} (hf : OW n f) (hm : M1 a1) (hI : RI μ) (h : ∀ (r : Int32) (μ9 : TMem), FQ μ μ9 → Qm r μ9) : wp_X11_become μ a1 n f Qm := by
  obtain ⟨S, hS1, hS, rfl, _, _⟩ := hf.get
  obtain ⟨q1, q2, q3, q4⟩ := quart hS
  refine ⟨fun c => ?_, fun _ => t_refuse hI h⟩
  rw [l_le, q3, show (28 : Int32).toInt = 28 from rfl] at c
  have L58 : ∀ (v14 : Int32) (K : TMem → Prop) (P : TMem → Prop), (∀ m i v, P m → P (tms m 4 i v)) → (0 ≤ v14.toInt ∧ v14.toInt < S) → (∀ μ9, P μ9 → K μ9) → ∀ (n : Nat) (v13 : Int32) (μ16 : TMem), ((3 : Int) - v13.toInt).toNat < n → 0 ≤ v13.toInt → P μ16 → wpl_X11_become_58 f (4 * S) v14 a1 K n v13 μ16 := by
    intro v14 K P hP g hK n
    induction n with
    | zero => intro v13 μ16 hk; exact absurd hk (Nat.not_lt_zero _)
    | succ n ih =>
      intro v13 μ16 hk h0 p
      refine ⟨fun _ => hK _ p, fun c => ?_⟩
      have c1 := nle c
      have e1 := inc_i c
      rw [show (3 : Int32).toInt = 3 from rfl] at c1
      exact t_keyv hm ⟨g.1, by omega⟩ ⟨h0, by omega⟩ (fun r hr => ⟨(fourk g.1 g.2 hS h0 (by omega)).2.2, hr, ih _ _ (by omega) (by omega) (hP _ _ _ p)⟩)
  refine t_clear hm hI (by omega) (fun μ2 f2 _ e2 => ?_)
  have L27 : ∀ (K : TMem → Prop), (∀ μ9, (FQ μ μ9 ∧ μ9 1 = μ2 1) → K μ9) → ∀ (n : Nat) (v4 : Int32) (μ6 : TMem), ((S : Int) - v4.toInt).toNat < n → 0 ≤ v4.toInt → (FQ μ μ6 ∧ μ6 1 = μ2 1) → wpl_X11_become_27 f (4 * S) a1 K n v4 μ6 := by
    intro K hK n
    induction n with
    | zero => intro v4 μ6 hk; exact absurd hk (Nat.not_lt_zero _)
    | succ n ih =>
      intro v4 μ6 hk h0 p
      refine ⟨hm.in4, fun _ => hK _ p, fun c => ?_⟩
      have c1 := nle c
      have e1 := inc_i c
      rw [p.2, e2, q1] at c1
      refine ⟨hm.in4, (fourk h0 c1 hS (by decide) (by decide)).2.2, hm.in4, _, L58 v4 _ (fun m => FQ μ m ∧ m 1 = μ2 1) (fun m i v g => ⟨g.1.st (by decide) (Or.inl (by decide)), g.2⟩) ⟨h0, c1⟩ (fun μ9 p9 => ih _ _ (by omega) (by omega) p9) _ 0 _ (Nat.lt_succ_self _) (by decide) ⟨p.1.st (by decide) (Or.inl (by decide)), p.2⟩⟩
  exact ⟨_, L27 _ (fun μ9 p9 => ⟨hm.in4, t_did p9.1.1 (fun r μ11 f11 => h _ _ (p9.1.trans f11))⟩) _ 0 _ (Nat.lt_succ_self _) (by decide) ⟨f2, rfl⟩⟩
theorem t_become_n {a1 : Int32} (hI : RI μ) (h : ∀ (r : Int32) (μ9 : TMem), FQ μ μ9 → Qm r μ9) : wp_X11_become_n μ a1 Qm := t_refuse hI h
theorem t_make {a1 a2 a3 : Int32} (hI : RI μ) (h : ∀ (r : Int32) (μ9 : TMem), FQ μ μ9 → Qm r μ9) : wp_X11_make μ a1 a2 a3 Qm := by
  refine t_two (fun j hj => t_thr hI (h 0) (fun μ4 f4 c1 c2 => ?_))
  obtain ⟨h1, h3⟩ := hj c1
  have key : ∀ j : Int32, wp_X11_found μ4 a1 j (fun (r18 : Option AI) => (r18 = none → (wp_X11_become_n μ4 a3 (fun r15 μ14 => Qm r15 μ14))) ∧ (∀ (n12 : Nat) (f13 : Nat → Int32), r18 = some (n12, f13) → (wp_X11_become μ4 a3 n12 f13 (fun r17 μ16 => Qm r17 μ16)))) := fun j =>
    (fnd μ4 a1 j f4.1 h1.1 h1.2).use (fun r hr => ⟨fun _ => t_become_n f4.1 (fun r μ9 f9 => h _ _ (f4.trans f9)), fun n f e => t_become (hr n f e) h3 f4.1 (fun r μ9 f9 => h _ _ (f4.trans f9))⟩)
  intro J hJ
  exact ⟨fun _ => hJ _ (key _), fun _ => hJ _ (key _)⟩
theorem t_tell {a1 a2 : Int32} (hI : RI μ) (h : ∀ (r : Int32) (μ9 : TMem), FQ μ μ9 → Qm r μ9) : wp_X11_tell μ a1 a2 Qm := by
  refine t_isOne (fun r1 b1 h1 => t_isIn (fun r2 b2 h2 => t_thr hI (h 0) (fun μ3 f3 c1 c2 => ?_)))
  have hm := h1 c1
  exact ⟨fun _ => ⟨fun _ => ⟨fun _ => ⟨fun _ => t_isPlain hm f3.1 (fun r _ => ⟨fun _ => h _ _ f3, fun _ => h _ _ f3⟩), fun _ => ⟨hm.in4, h _ _ f3⟩⟩, fun _ => ⟨hm.in4, h _ _ f3⟩⟩, fun _ => t_arrowsOf hm (fun r => h _ _ f3)⟩, fun _ => ⟨hm.in4, h _ _ f3⟩⟩
theorem t_arrows {a1 a2 a3 : Int32} (hI : RI μ) (h : ∀ (r : Int32) (μ9 : TMem), FQ μ μ9 → Qm r μ9) : wp_X11_arrows μ a1 a2 a3 Qm := by
  refine t_ost hI (fun j hj => t_isIn (fun r4 b4 h4 => t_thr hI (h 0) (fun μ5 f5 c1 c2 => ?_)))
  obtain ⟨hm, hs⟩ := hj c1
  exact t_keyv hm hs (h4 c2) (fun r hr => ⟨hr, h _ _ f5⟩)
theorem t_power (a0 : Int32) : ∃ r : Int32, ∀ Q : Int32 → Prop, Q r → wp_X11_power a0 Q := by
  have L : ∀ (n : Nat) (v2 v3 : Int32), (a0.toInt - v2.toInt).toNat < n → ∃ r : Int32, ∀ Q : Int32 → Prop, Q r → wpl_X11_power_4 a0 Q n v2 v3 := by
    intro n
    induction n with
    | zero => intro v2 v3 hk; exact absurd hk (Nat.not_lt_zero _)
    | succ n ih =>
      intro v2 v3 hk
      by_cases c : a0 ≤ v2
      · exact ⟨v3, fun Q hQ => ⟨fun _ => hQ, fun z => absurd c z⟩⟩
      · have c1 := nle c
        have e1 := inc_i c
        obtain ⟨r, hr⟩ := ih (v2 + 1) (v3 * 3) (by omega)
        exact ⟨r, fun Q hQ => ⟨fun z => absurd z c, fun _ => hr Q hQ⟩⟩
  obtain ⟨r, hr⟩ := L _ 0 1 (Nat.lt_succ_self _)
  exact ⟨r, fun Q hQ => ⟨_, hr Q hQ⟩⟩
theorem t_isWord {a0 a1 : Int32} (h : ∀ r : Int32, (r ≠ 0 → (0 ≤ a0.toInt ∧ a0.toInt ≤ 12) ∧ 0 ≤ a1.toInt) → Q r) : wp_X11_isWord a0 a1 Q := by
  obtain ⟨r3, hr⟩ := t_power a0
  refine t_isIn (fun r1 b1 h1 => ⟨fun _ => h _ (fun z => absurd rfl z), fun c1 => hr _ (t_isIn (fun r4 b4 h4 => ⟨fun _ => h _ (fun z => absurd rfl z), fun c2 => h _ (fun _ => ⟨h1 c1, ?_⟩)⟩))⟩)
  have := (h4 c2).1
  rw [ii_0] at this
  exact this
theorem mod3 {v : Int32} (h : 0 ≤ v.toInt) : (0 ≤ (v - v / (3 : Int32) * (3 : Int32)).toInt ∧ (v - v / (3 : Int32) * (3 : Int32)).toInt ≤ 2) ∧ 0 ≤ (v / (3 : Int32)).toInt := by
  have b : v.toInt < 2147483648 := v.toInt_lt
  have k1 : (v / (3 : Int32)).toInt = v.toInt / 3 := ii_d rfl rfl h (by decide)
  have k2 : (v / (3 : Int32) * (3 : Int32)).toInt = v.toInt / 3 * 3 := ii_m k1 rfl (by omega) (by omega)
  have k3 : (v - v / (3 : Int32) * (3 : Int32)).toInt = v.toInt - v.toInt / 3 * 3 := ii_s rfl k2 (by omega) (by omega)
  exact ⟨by omega, by omega⟩
theorem t_setAfter {a1 a2 a3 : Int32} (hm : M1 a1) (hI : RI μ) (h3 : 0 ≤ a3.toInt) (h : ∀ r : Int32, Q r) : wp_X11_setAfter μ a1 a2 a3 Q := by
  have r7 := hm.ri hI
  have L26 : ∀ (v12 v13 v14 v16 : Int32) (K : Int32 → Prop), 0 ≤ v13.toInt → (∀ u, K u) → ∀ (n : Nat) (v10 v11 : Int32), ((7 : Int) - v10.toInt).toNat < n → 0 ≤ v10.toInt → wpl_X11_setAfter_26 μ v12 v13 v14 a1 v16 K n v10 v11 := by
    intro v12 v13 v14 v16 K g hK n
    induction n with
    | zero => intro v10 v11 hk; exact absurd hk (Nat.not_lt_zero _)
    | succ n ih =>
      intro v10 v11 hk h0
      refine ⟨hm.in4, fun _ => hK _, fun c => ?_⟩
      have c1 := nle c
      have e1 := inc_i c
      exact ⟨fun _ => ih _ _ (by omega) (by omega), fun _ => t_keyv hm ⟨h0, by omega⟩ (mod3 g).1 (fun r hr => ⟨hr, ih _ _ (by omega) (by omega)⟩)⟩
  have L14 : ∀ (n : Nat) (v3 v4 v5 : Int32), (a2.toInt - v3.toInt).toNat < n → 0 ≤ v4.toInt → wpl_X11_setAfter_14 μ a1 a2 Q n v3 v4 v5 := by
    intro n
    induction n with
    | zero => intro v3 v4 v5 hk; exact absurd hk (Nat.not_lt_zero _)
    | succ n ih =>
      intro v3 v4 v5 hk h0
      refine ⟨fun _ => h _, fun c => ?_⟩
      have c1 := nle c
      have e1 := inc_i c
      exact ⟨_, L26 v3 v4 v5 a2 _ h0 (fun u => ih _ _ _ (by omega) (mod3 h0).2) _ 0 0 (Nat.lt_succ_self _) (by decide)⟩
  exact ⟨hm.in4, _, L14 _ 0 a3 _ (Nat.lt_succ_self _) h3⟩
theorem t_takes {a1 a2 a3 : Int32} (hI : RI μ) (h : ∀ (r : Int32) (μ9 : TMem), FQ μ μ9 → Qm r μ9) : wp_X11_takes μ a1 a2 a3 Qm := by
  refine t_isOne (fun r1 b1 h1 => t_isWord (fun r2 h2 => t_isThrown hI (fun r4 μ3 b4 f3 h4 => ⟨fun _ => h _ _ f3, fun c => ?_⟩)))
  have hm := h1 (h4 c).1
  exact t_setAfter hm f3.1 (h2 (h4 c).2).2 (fun r8 => ⟨hm.in4, fun _ => h _ _ f3, fun _ => h _ _ f3⟩)
end RMA
end
/-! part 9e.rm2 -/
section
section RMB
variable {Q : Int32 → Prop} {Qm : Int32 → TMem → Prop} {Qv : TMem → Prop} {μ : TMem}
theorem t_fnd {a1 a2 : Int32} {K : Option AI → Prop} (hm : M1 a1) (hI : RI μ) (h : ∀ r, OWo r → K r) : wp_X11_found μ a1 a2 K := (fnd μ a1 a2 hI hm.1 hm.2).use h
theorem t_after {a1 a2 a3 a4 : Int32} (hI : RI μ) (h : ∀ (r : Int32) (μ9 : TMem), FQ μ μ9 → Qm r μ9) : wp_X11_after μ a1 a2 a3 a4 Qm := by
  refine t_isOne (fun r1 b1 h1 => t_isWord (fun r2 h2 => ?_))
  intro J hJ
  have key : ∀ j : Int32, (j ≠ 0 → r2 ≠ 0) → J j := by
    intro j hj
    refine hJ j (t_thr hI (h 0) (fun μ5 f5 c1 c2 => ?_))
    have hm := h1 c1
    have h3 := (h2 (hj c2)).2
    refine ⟨fun _ => ?_, fun _ => t_setAfter hm f5.1 h3 (fun r => h _ _ f5)⟩
    intro J9 hJ9
    have key9 : ∀ j, J9 j := by
      intro j
      refine hJ9 j (t_fnd hm f5.1 (fun r hr => ⟨fun _ => t_isCrowded_n f5.1 (fun μ9 f9 => ⟨fun z => absurd z (by decide), fun _ => h _ _ (f5.trans f9)⟩), fun n f e => ?_⟩))
      obtain ⟨S, hS1, hS, rfl, hf, _⟩ := (hr n f e).get
      refine t_isCrowded f5.1 (fun μ9 f9 => ⟨fun _ => ?_, fun z => absurd rfl z⟩)
      have L : ∀ (n : Nat) (v30 v31 v32 : Int32), (a2.toInt - v30.toInt).toNat < n → 0 ≤ v31.toInt → 0 ≤ v32.toInt → v32.toInt < S → wpl_X11_after_88_28 μ9 f (4 * S) a2 Qm n v30 v31 v32 := by
        intro n
        induction n with
        | zero => intro v30 v31 v32 hk; exact absurd hk (Nat.not_lt_zero _)
        | succ n ih =>
          intro v30 v31 v32 hk h31 g1 g2
          refine ⟨fun _ => h _ _ (f5.trans f9), fun c => ?_⟩
          have c1 := nle c
          have e1 := inc_i c
          obtain ⟨m1, m2⟩ := mod3 h31
          obtain ⟨k1, k2, k3⟩ := fourk g1 g2 hS m1.1 (by omega)
          refine ⟨k3, ?_⟩
          have k4 := hf v32.toInt.toNat (v31 - v31 / (3 : Int32) * (3 : Int32)).toInt.toNat (by omega) (by omega)
          rw [k2]
          exact ih _ _ _ (by omega) m2 k4.1 k4.2
      exact ⟨_, L _ 0 a3 0 (Nat.lt_succ_self _) h3 (by decide) (by rw [ii_0]; omega)⟩
    exact ⟨fun _ => key9 _, fun _ => key9 _⟩
  exact ⟨fun _ => key 0 (fun z => absurd rfl z), fun c => t_isIn (fun r b h5 => ⟨fun _ => key 0 (fun z => absurd rfl z), fun _ => key 1 (fun _ => c)⟩)⟩
theorem t_size {a1 a2 : Int32} (hI : RI μ) (h : ∀ (r : Int32) (μ9 : TMem), FQ μ μ9 → Qm r μ9) : wp_X11_size μ a1 a2 Qm := by
  refine t_isOne (fun r1 b1 h1 => t_isIn (fun r2 b2 h2 => t_thr hI (h 0) (fun μ3 f3 c1 c2 => ?_)))
  exact t_fnd (h1 c1) f3.1 (fun r hr => ⟨fun _ => t_isCrowded_n f3.1 (fun μ9 f9 => ⟨fun z => absurd z (by decide), fun _ => h _ _ (f3.trans f9)⟩), fun n f e => t_isCrowded f3.1 (fun μ9 f9 => ⟨fun _ => h _ _ (f3.trans f9), fun _ => h _ _ (f3.trans f9)⟩)⟩)
theorem t_isReached {S : Nat} {f : Nat → Int32} {a2 : Int32} (hS : S ≤ 32) (h : ∀ r : Int32, Q r) : wp_X11_isReached (4 * S) f a2 Q := by
  obtain ⟨q1, q2, q3, q4⟩ := quart hS
  have L29 : ∀ (v15 v17 : Int32) (v18 : Int64) (v19 : Int32) (K : Int64 → Prop), 0 ≤ v15.toInt → v15.toInt < S → (∀ u, K u) → ∀ (n : Nat) (v14 : Int32) (v16 : Int64), ((3 : Int) - v14.toInt).toNat < n → 0 ≤ v14.toInt → wpl_X11_isReached_29 f (4 * S) v15 v17 v18 v19 K n v14 v16 := by
    intro v15 v17 v18 v19 K g1 g2 hK n
    induction n with
    | zero => intro v14 v16 hk; exact absurd hk (Nat.not_lt_zero _)
    | succ n ih =>
      intro v14 v16 hk h0
      refine ⟨fun _ => hK _, fun c => ?_⟩
      have c1 := nle c
      have e1 := inc_i c
      rw [show (3 : Int32).toInt = 3 from rfl] at c1
      exact ⟨fun _ => ih _ _ (by omega) (by omega), fun _ => ⟨(fourk g1 g2 hS h0 (by omega)).2.2, ih _ _ (by omega) (by omega)⟩⟩
  have L17 : ∀ (v9 : Int32) (v10 : Int64) (v11 : Int32) (K : Int64 → Prop), (∀ u, K u) → ∀ (n : Nat) (v7 : Int32) (v8 : Int64), ((S : Int) - v7.toInt).toNat < n → 0 ≤ v7.toInt → wpl_X11_isReached_17 f (4 * S) v9 v10 v11 K n v7 v8 := by
    intro v9 v10 v11 K hK n
    induction n with
    | zero => intro v7 v8 hk; exact absurd hk (Nat.not_lt_zero _)
    | succ n ih =>
      intro v7 v8 hk h0
      refine ⟨fun _ => hK _, fun c => ?_⟩
      have c1 := nle c
      have e1 := inc_i c
      rw [q1] at c1
      exact ⟨_, L29 v7 v9 v10 v11 _ h0 c1 (fun u => ih _ _ (by omega) (by omega)) _ 0 v8 (Nat.lt_succ_self _) (by decide)⟩
  have L5 : ∀ (K : Int64 → Prop), (∀ u, K u) → ∀ (n : Nat) (v2 : Int32) (v3 : Int64), (a2.toInt - v2.toInt).toNat < n → wpl_X11_isReached_5 f (4 * S) a2 K n v2 v3 := by
    intro K hK n
    induction n with
    | zero => intro v2 v3 hk; exact absurd hk (Nat.not_lt_zero _)
    | succ n ih =>
      intro v2 v3 hk
      refine ⟨fun _ => hK _, fun c => ?_⟩
      have c1 := nle c
      have e1 := inc_i c
      exact ⟨_, L17 v2 v3 a2 _ (fun u => ih _ _ (by omega)) _ 0 _ (Nat.lt_succ_self _) (by decide)⟩
  have L86 : ∀ (v31 : Int64) (n : Nat) (v30 : Int32), ((S : Int) - v30.toInt).toNat < n → 0 ≤ v30.toInt → wpl_X11_isReached_86 f (4 * S) v31 Q n v30 := by
    intro v31 n
    induction n with
    | zero => intro v30 hk; exact absurd hk (Nat.not_lt_zero _)
    | succ n ih =>
      intro v30 hk h0
      refine ⟨fun _ => h _, fun c => ?_⟩
      have c1 := nle c
      have e1 := inc_i c
      rw [q1] at c1
      exact ⟨fun _ => ih _ (by omega) (by omega), fun _ => ⟨(fourk h0 c1 hS (by decide) (by decide)).2.2, fun _ => ih _ (by omega) (by omega), fun _ => h _⟩⟩
  exact ⟨_, L5 _ (fun u => ⟨_, L86 u _ 0 (Nat.lt_succ_self _) (by decide)⟩) _ 0 _ (Nat.lt_succ_self _)⟩
theorem t_kind {a1 : Int32} (hI : RI μ) (h : ∀ (r : Int32) (μ9 : TMem), FQ μ μ9 → Qm r μ9) : wp_X11_kind μ a1 Qm := by
  refine t_isOne (fun r1 b1 h1 => t_thr hI (h 0) (fun μ3 f3 c1 c2 => ?_))
  refine t_fnd (h1 c1) f3.1 (fun r hr => ⟨fun _ => t_isCrowded_n f3.1 (fun μ9 f9 => ⟨fun z => absurd z (by decide), fun _ => h _ _ (f3.trans f9)⟩), fun n f e => t_isCrowded f3.1 (fun μ9 f9 => ⟨fun _ => ?_, fun _ => h _ _ (f3.trans f9)⟩)⟩)
  obtain ⟨S, hS1, hS, rfl, hf, _⟩ := (hr n f e).get
  obtain ⟨q1, q2, q3, q4⟩ := quart hS
  have L : ∀ (n : Nat) (v18 : Int32), ((2 : Int) * S - v18.toInt).toNat < n → wpl_X11_kind_49 μ9 f (4 * S) ((nI (4 * S)) / (4 : Int32)) Qm n v18 := by
    intro n
    induction n with
    | zero => intro v18 hk; exact absurd hk (Nat.not_lt_zero _)
    | succ n ih =>
      intro v18 hk
      refine ⟨fun _ => h _ _ (f3.trans f9), fun c => ?_⟩
      have c1 := nle c
      have e1 := inc_i c
      have e2 : ((2 : Int32) * ((nI (4 * S)) / (4 : Int32))).toInt = 2 * (S : Int) := ii_m rfl q1 (by omega) (by omega)
      rw [e2] at c1
      exact t_isReached hS (fun r21 => ⟨fun _ => ih _ (by omega), fun _ => h _ _ (f3.trans f9)⟩)
  exact ⟨fun _ => ⟨_, L _ _ (Nat.lt_succ_self _)⟩, fun _ => ⟨vin (by rw [show (3 : Int32).toInt = 3 from rfl]; omega), h _ _ (f3.trans f9)⟩⟩
theorem t_ways {S : Nat} {f : Nat → Int32} {a2 : Int32} (ho : OW (4 * S) f) (h2 : 0 ≤ a2.toInt ∧ a2.toInt ≤ 12) (h : ∀ r : Int32, Qm r μ) : wp_X11_ways (4 * S) f a2 (fun (n34 : Nat) (f35 : Nat → Int32) => vp_in (a2 * ((nI (4 * S)) / (4 : Int32))) n34 ∧ (Qm (f35 (a2 * ((nI (4 * S)) / (4 : Int32))).toNatClampNeg) μ)) := by
  obtain ⟨S2, hS1, hS, e, hf, hg⟩ := ho.get
  have e2 : S2 = S := by omega
  subst e2
  obtain ⟨q1, q2, q3, q4⟩ := quart hS
  obtain ⟨g, _, k⟩ := wy S2 a2.toInt.toNat f a2 hS1 hS (by omega) (by omega) hf hg
  refine k _ ⟨vin ?_, h _⟩
  obtain ⟨L, hL⟩ : ∃ L : Nat, a2.toInt = L := ⟨a2.toInt.toNat, by omega⟩
  have hL2 : L ≤ 12 := by omega
  have b1 : L * S2 ≤ 12 * S2 := Nat.mul_le_mul_right _ hL2
  have k1 : (a2 * ((nI (4 * S2)) / (4 : Int32))).toInt = ((L * S2 : Nat) : Int) := (ii_m hL q1 (by rw [← Int.natCast_mul]; omega) (by rw [← Int.natCast_mul]; omega)).trans (by rw [Int.natCast_mul])
  have k2 : a2.toInt.toNat = L := by omega
  rw [k1, k2, Nat.mul_succ, Nat.mul_comm S2 L]
  omega
theorem t_many {a1 a2 a3 : Int32} (hI : RI μ) (h : ∀ (r : Int32) (μ9 : TMem), FQ μ μ9 → Qm r μ9) : wp_X11_many μ a1 a2 a3 Qm := by
  refine t_isOne (fun r1 b1 h1 => t_isIn (fun r2 b2 h2 => ?_))
  intro J hJ
  have key : ∀ j : Int32, (j ≠ 0 → r2 ≠ 0) → J j := by
    intro j hj
    refine hJ j (t_thr hI (h 0) (fun μ5 f5 c1 c2 => ?_))
    have hm := h1 c1
    have hl := h2 (hj c2)
    rw [ii_0, show (12 : Int32).toInt = 12 from rfl] at hl
    refine ⟨fun _ => ?_, fun _ => t_fnd hm f5.1 (fun r hr => ⟨fun _ => t_isCrowded_n f5.1 (fun μ9 f9 => ⟨fun z => absurd z (by decide), fun _ => h _ _ (f5.trans f9)⟩), fun n f e => t_isCrowded f5.1 (fun μ9 f9 => ⟨fun _ => ?_, fun _ => h _ _ (f5.trans f9)⟩)⟩)⟩
    · obtain ⟨r, hr⟩ := t_power a2
      have L : ∀ (n : Nat) (v10 v11 : Int32), (r.toInt - v10.toInt).toNat < n → 0 ≤ v10.toInt → wpl_X11_many_94 μ5 a1 a2 Qm n v10 v11 := by
        intro n
        induction n with
        | zero => intro v10 v11 hk; exact absurd hk (Nat.not_lt_zero _)
        | succ n ih =>
          intro v10 v11 hk h0
          refine hr _ ⟨fun _ => h _ _ f5, fun c => ?_⟩
          have c1 := nle c
          have e1 := inc_i c
          exact t_setAfter hm f5.1 h0 (fun r18 => ⟨hm.in4, fun _ => ih _ _ (by omega) (by omega), fun _ => ih _ _ (by omega) (by omega)⟩)
      exact ⟨_, L _ 0 0 (Nat.lt_succ_self _) (by decide)⟩
    · have ho := hr n f e
      obtain ⟨S, _, _, rfl, _, _⟩ := ho.get
      exact t_ways ho hl (fun r => h _ _ (f5.trans f9))
  have no : J 0 := key 0 (fun z => absurd rfl z)
  exact ⟨fun _ => no, fun c => t_isIn (fun r b h5 => ⟨fun _ => no, fun _ => ⟨fun _ => key 1 (fun _ => c), fun _ => ⟨fun _ => no, fun _ => key 1 (fun _ => c)⟩⟩⟩)⟩
/-- where a pair goes by one sign -/
def nx2 (fa1 fa2 : Nat → Int32) (p v : Int32) : Int32 := ((fa1 (((4 : Int32) * (p / (32 : Int32))) + v).toNatClampNeg) * (32 : Int32)) + (fa2 (((4 : Int32) * (p - p / (32 : Int32) * (32 : Int32))) + v).toNatClampNeg)
theorem nx2_ok {S1 S2 : Nat} {fa1 fa2 : Nat → Int32} (h1 : S1 ≤ 32) (h2 : S2 ≤ 32) (hf1 : ∀ k s : Nat, k < S1 → s < 3 → 0 ≤ (fa1 (4 * k + s)).toInt ∧ (fa1 (4 * k + s)).toInt < S1) (hf2 : ∀ k s : Nat, k < S2 → s < 3 → 0 ≤ (fa2 (4 * k + s)).toInt ∧ (fa2 (4 * k + s)).toInt < S2) {p v : Int32} (hp : PR S1 S2 p) (hv : 0 ≤ v.toInt) (hv3 : v.toInt < 3) : vp_in ((4 : Int32) * (p / (32 : Int32)) + v) (4 * S1) ∧ vp_in ((4 : Int32) * (p - p / (32 : Int32) * (32 : Int32)) + v) (4 * S2) ∧ PR S1 S2 (nx2 fa1 fa2 p v) := by
  obtain ⟨e1, e2⟩ := hp.parts
  obtain ⟨g1, g2, g3⟩ := hp
  obtain ⟨a1, a2, a3⟩ := fourk (x := p / (32 : Int32)) (y := v) (S := S1) (by omega) (by omega) h1 hv (by omega)
  obtain ⟨b1, b2, b3⟩ := fourk (x := p - p / (32 : Int32) * (32 : Int32)) (y := v) (S := S2) (by omega) (by omega) h2 hv (by omega)
  refine ⟨a3, b3, ?_⟩
  unfold nx2
  rw [a2, b2]
  exact (PR.mk h1 h2 (hf1 _ _ (by omega) (by omega)) (hf2 _ _ (by omega) (by omega))).2
/-- rows of met pairs: each is a pair, and where those before (a, b) go is among them -/
def MV (fa1 fa2 : Nat → Int32) (S1 S2 : Nat) (f : Nat → Int32) (z a : Nat) (b : Int) : Prop :=
  (∀ k, k < z → PR S1 S2 (f (3 * k + 1))) ∧ ∀ (k : Nat) (v : Int32), 0 ≤ v.toInt → v.toInt < 3 → (k < a ∨ (k = a ∧ v.toInt < b)) → ∃ t, t < z ∧ f (3 * t + 1) = nx2 fa1 fa2 (f (3 * k + 1)) v
section MV
variable {fa1 fa2 : Nat → Int32} {S1 S2 : Nat} {f f' : Nat → Int32} {z z' a : Nat} {b : Int}
theorem MV.move (h : MV fa1 fa2 S1 S2 f z a b) (ha : a ≤ z) (hab : a < z ∨ b ≤ 0) (hf : ∀ k, k < z → f' (3 * k + 1) = f (3 * k + 1)) (hz : z ≤ z') (hr : ∀ k, z ≤ k → k < z' → PR S1 S2 (f' (3 * k + 1))) : MV fa1 fa2 S1 S2 f' z' a b := by
  refine ⟨fun k hk => ?_, fun k v h0 h3 hk => ?_⟩
  · by_cases e : k < z
    · rw [hf k e]
      exact h.1 k e
    · exact hr k (by omega) hk
  · obtain ⟨t, ht, e⟩ := h.2 k v h0 h3 hk
    exact ⟨t, by omega, by rw [hf t ht, hf k (by omega)]; exact e⟩
theorem MV.next {v : Int32} (h : MV fa1 fa2 S1 S2 f z a b) (hv : v.toInt = b) (ht : 0 ≤ b → ∃ t, t < z ∧ f (3 * t + 1) = nx2 fa1 fa2 (f (3 * a + 1)) v) : MV fa1 fa2 S1 S2 f z a (b + 1) := by
  refine ⟨h.1, fun k w h0 h3 hk => ?_⟩
  by_cases e : k < a ∨ (k = a ∧ w.toInt < b)
  · exact h.2 k w h0 h3 e
  · have e1 : k = a := by omega
    have e2 : w.toInt = v.toInt := by omega
    have e3 : w = v := l_eq.mpr e2
    subst e1
    subst e3
    exact ht (by omega)
theorem MV.row (h : MV fa1 fa2 S1 S2 f z a b) (hb : 3 ≤ b) : MV fa1 fa2 S1 S2 f z (a + 1) 0 := ⟨h.1, fun k w h0 h3 hk => h.2 k w h0 h3 (by omega)⟩
theorem MV.neg (h : MV fa1 fa2 S1 S2 f z a 0) : MV fa1 fa2 S1 S2 f z a (-1) := ⟨h.1, fun k w h0 h3 hk => h.2 k w h0 h3 (by omega)⟩
end MV
/-- from where each met pair was met, and by which sign -/
def MG (f : Nat → Int32) (z : Nat) : Prop := ∀ k, 1 ≤ k → k < z → (0 ≤ (f (3 * k + 2)).toInt ∧ (f (3 * k + 2)).toInt < k) ∧ (-1 ≤ (f (3 * k + 3)).toInt ∧ (f (3 * k + 3)).toInt ≤ 2)
theorem i3 {x c : Int32} {z : Nat} (h : x.toInt = z) (hz : z ≤ 201) (h0 : -2 ≤ c.toInt) (hc : c.toInt ≤ 3) : ((3 : Int32) * x + c).toInt = 3 * z + c.toInt := by
  exact ii_a (ii_m rfl h (by omega) (by omega)) rfl (by omega) (by omega)
/-- what a walk of pairs gives -/
def MP (fa1 fa2 : Nat → Int32) (S1 S2 M : Nat) (v16 : Int32) (f : Nat → Int32) : Prop := ∃ z : Nat, (f 0).toInt = z ∧ 1 ≤ z ∧ z ≤ M + 1 ∧ (∀ k, k < z → PR S1 S2 (f (3 * k + 1))) ∧ (z ≤ M → v16 = 0 → MV fa1 fa2 S1 S2 f z z 0) ∧ MG f z
theorem mt27 {fa1 fa2 : Nat → Int32} {S1 S2 M : Nat} {v13 v15 v16 : Int32} {a : Nat} {K : Int32 → (Nat → Int32) → Prop} {Q : Nat → (Nat → Int32) → Prop} (h1 : S1 ≤ 32) (h2 : S2 ≤ 32) (hf1 : ∀ k s : Nat, k < S1 → s < 3 → 0 ≤ (fa1 (4 * k + s)).toInt ∧ (fa1 (4 * k + s)).toInt < S1) (hf2 : ∀ k s : Nat, k < S2 → s < 3 → 0 ≤ (fa2 (4 * k + s)).toInt ∧ (fa2 (4 * k + s)).toInt < S2) (hM : v15.toInt = M) (hM2 : M ≤ 200) (h13 : v13.toInt = a)
    (hQ : ∀ f, MP fa1 fa2 S1 S2 M v16 f → Q (3 * M + 4) f) (hK : ∀ (v14 : Int32) (f : Nat → Int32) (z : Nat), v14.toInt = z → z ≤ M → a < z → MV fa1 fa2 S1 S2 f z (a + 1) 0 → f 0 = v14 → MG f z → K v14 f) :
    ∀ (n : Nat) (v12 v14 : Int32) (f : Nat → Int32) (z : Nat), ((3 : Int) - v12.toInt).toNat < n → -1 ≤ v12.toInt → v14.toInt = z → a < z → z ≤ M → MV fa1 fa2 S1 S2 f z a v12.toInt → (v12.toInt = -1 ∨ f 0 = v14) → MG f z → wpl_X11_met_27 fa1 (4 * S1) fa2 (4 * S2) (3 * M + 4) v13 v15 v16 K Q n v12 v14 f := by
  intro n
  induction n with
  | zero => intro v12 v14 f z hk; exact absurd hk (Nat.not_lt_zero _)
  | succ n ih =>
    intro v12 v14 f z hk h0 h14 haz hzM hV hf0 hG
    refine ⟨fun c => ?_, fun c => ?_⟩
    · rw [l_le, show (3 : Int32).toInt = 3 from rfl] at c
      exact hK v14 f z h14 hzM haz (hV.row c) (hf0.resolve_left (by omega)) hG
    have c1 := nle c
    have e1 := inc_i c
    rw [show (3 : Int32).toInt = 3 from rfl] at c1
    have i1 : ((3 : Int32) * v13 + (1 : Int32)).toInt = 3 * (a : Int) + 1 := i3 h13 (by omega) (by decide) (by decide)
    have i2 : ((3 : Int32) * v13 + (1 : Int32)).toNatClampNeg = 3 * a + 1 := by rw [ii_cl, i1]; omega
    refine ⟨vin (by omega), ?_⟩
    intro J20 hJ20
    have key20 : ∀ j21 : Int32, PR S1 S2 j21 → (0 ≤ v12.toInt → j21 = nx2 fa1 fa2 (f (3 * a + 1)) v12) → J20 j21 := by
      intro j21 hj hn
      have L87 : ∀ (K114 : Int32 → Prop), (∀ u : Int32, 0 ≤ u.toInt → u.toInt ≤ z → (u = v14 ∨ (u.toInt < z ∧ f (3 * u.toInt.toNat + 1) = j21)) → K114 u) → ∀ (n : Nat) (v23 : Int32), ((z : Int) - v23.toInt).toNat < n → 0 ≤ v23.toInt → v23.toInt ≤ z → wpl_X11_met_87 fa1 (4 * S1) fa2 (4 * S2) f (3 * M + 4) j21 v12 v13 v14 v15 v16 K114 n v23 := by
        intro K114 hK114 n
        induction n with
        | zero => intro v23 hk; exact absurd hk (Nat.not_lt_zero _)
        | succ n ih =>
          intro v23 hk g0 g1
          refine ⟨fun c => ?_, fun c => ?_⟩
          · rw [l_le] at c
            exact hK114 _ g0 g1 (Or.inl (l_eq.mpr (by omega)))
          have c1 := nle c
          have e1 := inc_i c
          have ii : ((3 : Int32) * v23 + (1 : Int32)).toInt = 3 * (v23.toInt.toNat : Int) + 1 := i3 (by omega) (by omega) (by decide) (by decide)
          refine ⟨vin (by omega), fun c5 => hK114 _ g0 g1 (Or.inr ⟨by omega, ?_⟩), fun _ => ih _ (by omega) (by omega) (by omega)⟩
          have ij : ((3 : Int32) * v23 + (1 : Int32)).toNatClampNeg = 3 * v23.toInt.toNat + 1 := by rw [ii_cl, ii]; omega
          rw [ij] at c5
          exact c5
      refine hJ20 j21 ⟨_, L87 _ (fun u u0 u1 hu => ?_) _ 0 (Nat.lt_succ_self _) (by decide) (by rw [ii_0]; omega)⟩
      intro J35 hJ35
      have key35 : ∀ (j36 : Int32) (f37 : Nat → Int32) (z' : Nat), j36.toInt = z' → z ≤ z' → z' ≤ z + 1 → MV fa1 fa2 S1 S2 f37 z' a (v12.toInt + 1) → MG f37 z' → J35 j36 f37 := by
        intro j36 f37 z' hj6 hz1 hz2 hV' hG'
        have hG8 : MG (upd f37 (0 : Int32).toNatClampNeg j36) z' := fun k g1 g2 => by
          rw [show (0 : Int32).toNatClampNeg = 0 from rfl, upd_ne (by omega), upd_ne (by omega)]
          exact hG' k g1 g2
        have hV8 : MV fa1 fa2 S1 S2 (upd f37 (0 : Int32).toNatClampNeg j36) z' a (v12.toInt + 1) := hV'.move (by omega) (by omega) (fun k _ => upd_ne (by rw [show (0 : Int32).toNatClampNeg = 0 from rfl]; omega)) (Nat.le_refl _) (fun k g1 g2 => by omega)
        have h00 : (upd f37 (0 : Int32).toNatClampNeg j36) 0 = j36 := upd_at
        have go : z' ≤ M → wpl_X11_met_27 fa1 (4 * S1) fa2 (4 * S2) (3 * M + 4) v13 v15 v16 K Q n (v12 + (1 : Int32)) j36 (upd f37 (0 : Int32).toNatClampNeg j36) := fun hz => ih _ _ _ z' (by omega) (by omega) hj6 (by omega) hz (by rw [e1]; exact hV8) (Or.inr h00) hG8
        refine hJ35 j36 f37 ⟨vin (by rw [ii_0]; omega), fun c3 => ?_, fun c3 => ?_⟩
        · rw [l_lt] at c3
          exact hQ _ ⟨z', by rw [h00]; exact hj6, by omega, by omega, hV8.1, fun hz => by omega, hG8⟩
        · rw [l_lt] at c3
          refine ⟨fun _ => go (by omega), fun c4 => ?_⟩
          have i5 : ((3 : Int32) * j36 - (2 : Int32)).toInt = 3 * (z' : Int) - 2 := ii_s (ii_m rfl hj6 (by omega) (by omega)) rfl (by omega) (by omega)
          refine ⟨vin (by omega), (iu S1 S2 fa1 fa2 _ h1 h2 ?_).use (fun r42 _ => ⟨fun _ => go (by omega), fun _ => hQ _ ⟨z', by rw [h00]; exact hj6, by omega, by omega, hV8.1, fun _ z => absurd z c4, hG8⟩⟩)⟩
          have i6 : ((3 : Int32) * j36 - (2 : Int32)).toNatClampNeg = 3 * (z' - 1) + 1 := by rw [ii_cl, i5]; omega
          rw [i6]
          exact hV8.1 _ (by omega)
      refine ⟨fun c3 => key35 v14 f z h14 (Nat.le_refl _) (by omega) (hV.next rfl (fun hb => ?_)) hG, fun c3 => ?_⟩
      · obtain ⟨ht, e5⟩ := hu.resolve_left c3
        exact ⟨u.toInt.toNat, by omega, by rw [e5]; exact hn hb⟩
      · have i1 : ((3 : Int32) * v14 + (1 : Int32)).toInt = 3 * (z : Int) + 1 := i3 h14 (by omega) (by decide) (by decide)
        have i2 : ((3 : Int32) * v14 + (2 : Int32)).toInt = 3 * (z : Int) + 2 := i3 h14 (by omega) (by decide) (by decide)
        have i3' : ((3 : Int32) * v14 + (3 : Int32)).toInt = 3 * (z : Int) + 3 := i3 h14 (by omega) (by decide) (by decide)
        have j1 : ((3 : Int32) * v14 + (1 : Int32)).toNatClampNeg = 3 * z + 1 := by rw [ii_cl, i1]; omega
        have j2 : ((3 : Int32) * v14 + (2 : Int32)).toNatClampNeg = 3 * z + 2 := by rw [ii_cl, i2]; omega
        have j3 : ((3 : Int32) * v14 + (3 : Int32)).toNatClampNeg = 3 * z + 3 := by rw [ii_cl, i3']; omega
        refine ⟨vin (by omega), vin (by omega), vin (by omega), ?_⟩
        rw [j1, j2, j3]
        have e14 : (v14 + (1 : Int32)).toInt = v14.toInt + 1 := ii_a rfl rfl (by omega) (by omega)
        have hnew : (upd (upd (upd f (3 * z + 1) j21) (3 * z + 2) v13) (3 * z + 3) v12) (3 * z + 1) = j21 := by
          rw [upd_ne (by omega), upd_ne (by omega), upd_at]
        have hold : ∀ k, k < z → (upd (upd (upd f (3 * z + 1) j21) (3 * z + 2) v13) (3 * z + 3) v12) (3 * k + 1) = f (3 * k + 1) := fun k hk => by
          rw [upd_ne (by omega), upd_ne (by omega), upd_ne (by omega)]
        refine key35 _ _ (z + 1) (by omega) (by omega) (Nat.le_refl _) ((hV.move (by omega) (Or.inl haz) hold (Nat.le_succ z) (fun k g1 g2 => ?_)).next rfl (fun hb => ⟨z, Nat.lt_succ_self z, ?_⟩)) (fun k g1 g2 => ?_)
        · have : k = z := by omega
          subst this
          rw [hnew]
          exact hj
        · rw [hnew, hold a haz]
          exact hn hb
        · by_cases ek : k = z
          · subst ek
            rw [upd_ne (by omega), upd_at, upd_at]
            exact ⟨⟨by omega, by omega⟩, ⟨h0, by omega⟩⟩
          · rw [upd_ne (by omega), upd_ne (by omega), upd_ne (by omega), upd_ne (by omega), upd_ne (by omega), upd_ne (by omega)]
            exact hG k g1 (by omega)
    have hpa := hV.1 a haz
    refine ⟨fun c3 => ?_, fun c3 => ?_⟩
    · rw [l_le, ii_0] at c3
      rw [i2]
      obtain ⟨k1, k2, k3⟩ := nx2_ok h1 h2 hf1 hf2 hpa c3 c1
      exact ⟨k1, k2, key20 _ k3 (fun _ => rfl)⟩
    · rw [i2]
      exact key20 _ hpa (fun hb => absurd (by rw [l_le, ii_0]; exact hb) c3)
theorem mt17 {fa1 fa2 : Nat → Int32} {S1 S2 M : Nat} {v15 v16 : Int32} {Q : Nat → (Nat → Int32) → Prop} (h1 : S1 ≤ 32) (h2 : S2 ≤ 32) (hf1 : ∀ k s : Nat, k < S1 → s < 3 → 0 ≤ (fa1 (4 * k + s)).toInt ∧ (fa1 (4 * k + s)).toInt < S1) (hf2 : ∀ k s : Nat, k < S2 → s < 3 → 0 ≤ (fa2 (4 * k + s)).toInt ∧ (fa2 (4 * k + s)).toInt < S2) (hM : v15.toInt = M) (hM2 : M ≤ 200)
    (hQ : ∀ f, MP fa1 fa2 S1 S2 M v16 f → Q (3 * M + 4) f) :
    ∀ (n : Nat) (v4 v5 : Int32) (f : Nat → Int32) (a z : Nat), (M - a) < n → v4.toInt = a → v5.toInt = z → a ≤ z → 1 ≤ z → z ≤ M → MV fa1 fa2 S1 S2 f z a 0 → (a = 0 ∨ f 0 = v5) → MG f z → wpl_X11_met_17 fa1 (4 * S1) fa2 (4 * S2) (3 * M + 4) v15 v16 Q n v4 v5 f := by
  intro n
  induction n with
  | zero => intro v4 v5 f a z hk; exact absurd hk (Nat.not_lt_zero _)
  | succ n ih =>
    intro v4 v5 f a z hk h4 h5 haz hz1 hzM hV hf0 hG
    refine ⟨fun c => ?_, fun c => ?_⟩
    · rw [l_le] at c
      have e : a = z := by omega
      subst e
      have e0 := hf0.resolve_left (by omega)
      exact hQ f ⟨a, by rw [e0]; exact h5, hz1, by omega, hV.1, fun _ _ => hV, hG⟩
    have c1 := nle c
    have e1 := inc_i c
    exact ⟨_, mt27 h1 h2 hf1 hf2 hM hM2 h4 hQ (fun v14 f9 z9 g14 gM gaz gV g0 gG => ih _ _ _ (a + 1) z9 (by omega) (by omega) g14 (by omega) (by omega) gM gV (Or.inr g0) gG) _ (-1) v5 f z (Nat.lt_succ_self _) (by decide) h5 (by omega) hzM hV.neg (Or.inl rfl) hG⟩
theorem t_met {fa1 fa2 : Nat → Int32} {S1 S2 M : Nat} {a3 a4 : Int32} {Q : Nat → (Nat → Int32) → Prop} (h11 : 1 ≤ S1) (h12 : 1 ≤ S2) (h1 : S1 ≤ 32) (h2 : S2 ≤ 32) (hf1 : ∀ k s : Nat, k < S1 → s < 3 → 0 ≤ (fa1 (4 * k + s)).toInt ∧ (fa1 (4 * k + s)).toInt < S1) (hf2 : ∀ k s : Nat, k < S2 → s < 3 → 0 ≤ (fa2 (4 * k + s)).toInt ∧ (fa2 (4 * k + s)).toInt < S2) (hM : a3.toInt = M) (hM1 : 1 ≤ M) (hM2 : M ≤ 200)
    (hQ : ∀ f, MP fa1 fa2 S1 S2 M a4 f → Q (3 * M + 4) f) : wp_X11_met (4 * S1) fa1 (4 * S2) fa2 a3 a4 Q := by
  have k1 : (a3 + (1 : Int32)).toInt = (M : Int) + 1 := ii_a hM rfl (by omega) (by omega)
  have k2 : ((3 : Int32) * (a3 + (1 : Int32)) + (1 : Int32)).toInt = 3 * ((M : Int) + 1) + 1 := ii_a (ii_m rfl k1 (by omega) (by omega)) rfl (by omega) (by omega)
  have k3 : ((3 : Int32) * (a3 + (1 : Int32)) + (1 : Int32)).toNatClampNeg = 3 * M + 4 := by rw [ii_cl, k2]; omega
  refine ⟨⟨fun c => ?_, ?_⟩, ?_⟩
  · rw [l_lt, k2, ii_0] at c
    omega
  · rw [k3]
    omega
  · rw [k3]
    refine ⟨_, mt17 h1 h2 hf1 hf2 hM hM2 hQ _ 0 1 (fun _ => 0) 0 1 (Nat.lt_succ_self _) rfl rfl (by decide) (Nat.le_refl _) hM1 ⟨fun k hk => ?_, fun k v g0 g3 hk => ?_⟩ (Or.inl rfl) (fun k g1 g2 => by omega)⟩
    · exact (show PR S1 S2 0 from ⟨by decide, by rw [ii_0]; omega, by rw [ii_0]; omega⟩)
    · omega
theorem t_isCrowded' {na1 : Nat} {fa1 : Nat → Int32} {a2 : Int32} (hI : RI μ) (h : ∀ μ9 : TMem, FQ μ μ9 → (∀ k : Nat, 1 ≤ k → μ9 k = μ k) → Qm 0 μ9) : wp_X11_isCrowded μ na1 fa1 a2 Qm := h _ ((FQ.rf hI).st (by decide) (Or.inr (by decide))) (fun k hk => by
  have : k ≠ 0 := by omega
  simp [tms, this])
theorem MP.last {fa1 fa2 : Nat → Int32} {S1 S2 M : Nat} {v16 : Int32} {f : Nat → Int32} (h : MP fa1 fa2 S1 S2 M v16 f) (hM : M ≤ 200) : vp_in ((3 : Int32) * (f 0) - (2 : Int32)) (3 * M + 4) ∧ PR S1 S2 (f ((3 : Int32) * (f 0) - (2 : Int32)).toNatClampNeg) := by
  obtain ⟨z, h0, h1, h2, h3, _⟩ := h
  have i5 : ((3 : Int32) * (f 0) - (2 : Int32)).toInt = 3 * (z : Int) - 2 := ii_s (ii_m rfl h0 (by omega) (by omega)) rfl (by omega) (by omega)
  have i6 : ((3 : Int32) * (f 0) - (2 : Int32)).toNatClampNeg = 3 * (z - 1) + 1 := by rw [ii_cl, i5]; omega
  exact ⟨vin (by omega), by rw [i6]; exact h3 _ (by omega)⟩
def MPa (f : Nat → Int32) : Prop := ∃ z : Nat, (f 0).toInt = z ∧ 1 ≤ z ∧ z ≤ 201 ∧ MG f z
theorem t_pairsOf {a1 a2 : Int32} {K : Option AI → Prop} (m1 : M1 a1) (m2 : M1 a2) (hI : RI μ) (h0 : K none) (h : ∀ f : Nat → Int32, MPa f → (∀ μ' : TMem, (∀ k : Nat, 1 ≤ k → μ' k = μ k) → ∀ Q : Int32 → Prop, (∀ r, isB r → Q r) → wp_X11_isApart μ' a1 a2 604 f Q) → K (some (604, f))) : wp_X11_pairsOf μ a1 a2 K := by
  obtain ⟨r1, o1, k1⟩ := owm μ a1 hI m1.1 m1.2
  obtain ⟨r2, o2, k2⟩ := owm μ a2 hI m2.1 m2.2
  refine k1 μ (fun _ _ => rfl) _ ⟨fun e1 => k2 μ (fun _ _ => rfl) _ ⟨fun _ => h0, fun _ _ _ => h0⟩, fun n4 f5 e1 => k2 μ (fun _ _ => rfl) _ ⟨fun _ => h0, fun n15 f16 e2 => ?_⟩⟩
  obtain ⟨S1, g11, g1, rfl, hf1, _⟩ := (o1 n4 f5 e1).get
  obtain ⟨S2, g12, g2, rfl, hf2, _⟩ := (o2 n15 f16 e2).get
  refine t_met (M := 200) g11 g12 g1 g2 hf1 hf2 rfl (by decide) (Nat.le_refl _) (fun f hf => ⟨vin (by rw [ii_0]; omega), fun _ => h f (by obtain ⟨z, e0, z1, z2, _, _, hG⟩ := hf; exact ⟨z, e0, z1, z2, hG⟩) (fun μ' e Q hQ => ?_), fun _ => h0⟩)
  obtain ⟨p1, p2⟩ := hf.last (Nat.le_refl _)
  refine k1 μ' e _ ⟨fun z => absurd (e1.symm.trans z) (by simp), fun n f3 e3 => k2 μ' e _ ⟨fun z => absurd (e2.symm.trans z) (by simp), fun n' f4 e4 => ?_⟩⟩
  have q1 := e1.symm.trans e3
  have q2 := e2.symm.trans e4
  cases q1
  cases q2
  exact ⟨vin (by rw [ii_0]; omega), p1, (iu S1 S2 f5 f16 _ g1 g2 p2).use (fun r hr => ⟨hr, hQ r hr⟩)⟩
theorem OWp.keep {f : Nat → Int32} {a s S : Int} {p : Nat} {u : Int32} (h : OWp f a s S) (hp : (p : Int) = 4 * a + s) (h0 : 0 ≤ s) (h3 : s < 3) : OWp (upd f p u) a s S := by
  refine ⟨fun k i hi hk => ?_, fun k hk => ?_⟩
  · rw [upd_ne (by omega)]
    exact h.1 k i hi hk
  · rw [upd_ne (by omega)]
    exact h.2 k hk
theorem OWp.done {f : Nat → Int32} {a s S : Int} {p : Nat} (h : OWp f a s S) (hp : (p : Int) = 4 * a + s) (h0 : 0 ≤ (f p).toInt) (h1 : (f p).toInt < S) : OWp f a (s + 1) S := by
  refine ⟨fun k i hi hk => ?_, h.2⟩
  by_cases e : (k : Int) < a ∨ ((k : Int) = a ∧ (i : Int) < s)
  · exact h.1 k i hi e
  · have : 4 * k + i = p := by omega
    rw [this]
    exact ⟨h0, h1⟩
def ZI (f : Nat → Int32) (a : Nat) (s : Int) : Prop := ∀ j : Nat, 4 * (a : Int) + s ≤ j → j ≠ 4 * a + 3 → f j = 0
theorem bt221 {μ : TMem} {f16 f19 f5 : Nat → Int32} {n15 n4 z a t : Nat} {v50 v51 v52 v53 v54 v55 : Int32} {K : (Nat → Int32) → Prop} {P : (Nat → Int32) → Prop} (hz : z ≤ 32) (ha : a < z) (ht : t < z) (h54 : v54.toInt = a) (h51 : 0 ≤ v51.toInt) (h513 : v51.toInt < 3) (hft : f19 (3 * t + 1) = v50)
    (hP : ∀ g u, P g → P (upd g (4 * a + v51.toInt.toNat) u)) (hK : ∀ g, P g → 0 ≤ (g (4 * a + v51.toInt.toNat)).toInt → (g (4 * a + v51.toInt.toNat)).toInt ≤ t → K g) :
    ∀ (n : Nat) (g : Nat → Int32), ((t : Int) - (g (4 * a + v51.toInt.toNat)).toInt).toNat < n → 0 ≤ (g (4 * a + v51.toInt.toNat)).toInt → (g (4 * a + v51.toInt.toNat)).toInt ≤ t → P g → wpl_X11_both_221 μ f16 n15 f19 100 (4 * z) f5 n4 v50 v51 v52 v53 v54 v55 K n g := by
  obtain ⟨k1, k2, k3⟩ := fourk (x := v54) (y := v51) (S := z) (by omega) (by omega) hz h51 (by omega)
  have k4 : ((4 : Int32) * v54 + v51).toNatClampNeg = 4 * a + v51.toInt.toNat := by rw [k2]; omega
  intro n
  induction n with
  | zero => intro g hk; exact absurd hk (Nat.not_lt_zero _)
  | succ n ih =>
    intro g hk h0 h1 p
    have ii : ((3 : Int32) * (g (4 * a + v51.toInt.toNat)) + (1 : Int32)).toInt = 3 * ((g (4 * a + v51.toInt.toNat)).toInt.toNat : Int) + 1 := i3 (by omega) (by omega) (by decide) (by decide)
    have ij : ((3 : Int32) * (g (4 * a + v51.toInt.toNat)) + (1 : Int32)).toNatClampNeg = 3 * (g (4 * a + v51.toInt.toNat)).toInt.toNat + 1 := by rw [ii_cl, ii]; omega
    refine ⟨k3, ?_⟩
    rw [k4]
    refine ⟨vin (by omega), fun _ => hK g p h0 h1, fun c => ⟨k3, k3, ?_⟩⟩
    rw [ij] at c
    have ne : (g (4 * a + v51.toInt.toNat)).toInt ≠ t := fun e => c (by rw [show (g (4 * a + v51.toInt.toNat)).toInt.toNat = t by omega]; exact hft)
    have e1 : ((g (4 * a + v51.toInt.toNat)) + (1 : Int32)).toInt = (g (4 * a + v51.toInt.toNat)).toInt + 1 := ii_a rfl rfl (by omega) (by omega)
    exact ih _ (by rw [upd_at, e1]; omega) (by rw [upd_at, e1]; omega) (by rw [upd_at, e1]; omega) (hP _ _ p)
theorem bt189 {μ : TMem} {f16 f19 f5 : Nat → Int32} {S1 S2 z a : Nat} {v44 v43 : Int32} {K : (Nat → Int32) → Prop} (g1 : S1 ≤ 32) (g2 : S2 ≤ 32) (hf1 : ∀ k s : Nat, k < S1 → s < 3 → 0 ≤ (f5 (4 * k + s)).toInt ∧ (f5 (4 * k + s)).toInt < S1) (hf2 : ∀ k s : Nat, k < S2 → s < 3 → 0 ≤ (f16 (4 * k + s)).toInt ∧ (f16 (4 * k + s)).toInt < S2) (hz : z ≤ 32) (ha : a < z) (h43 : v43.toInt = a) (hV : MV f5 f16 S1 S2 f19 z z 0)
    (hK : ∀ g, OWp g a 3 z → ZI g a 3 → K g) :
    ∀ (n : Nat) (v40 : Int32) (g : Nat → Int32), ((3 : Int) - v40.toInt).toNat < n → 0 ≤ v40.toInt → v40.toInt ≤ 3 → OWp g a v40.toInt z → ZI g a v40.toInt → wpl_X11_both_189 μ f16 (4 * S2) f19 100 (4 * z) f5 (4 * S1) ((f19 (3 * a + 1)) - (f19 (3 * a + 1)) / (32 : Int32) * (32 : Int32)) ((f19 (3 * a + 1)) / (32 : Int32)) v43 v44 K n v40 g := by
  intro n
  induction n with
  | zero => intro v40 g hk; exact absurd hk (Nat.not_lt_zero _)
  | succ n ih =>
    intro v40 g hk h0 h3 hO hZ
    refine ⟨fun c => ?_, fun c => ?_⟩
    · rw [l_le, show (3 : Int32).toInt = 3 from rfl] at c
      have e : v40.toInt = 3 := by omega
      rw [e] at hO hZ
      exact hK g hO hZ
    have c1 := nle c
    have e1 := inc_i c
    rw [show (3 : Int32).toInt = 3 from rfl] at c1
    obtain ⟨k1, k2, _⟩ := nx2_ok g1 g2 hf1 hf2 (hV.1 a ha) h0 c1
    obtain ⟨t, ht, et⟩ := hV.2 a v40 h0 c1 (Or.inl ha)
    have hg0 : g (4 * a + v40.toInt.toNat) = 0 := hZ _ (by omega) (by omega)
    refine ⟨k1, k2, _, bt221 (P := fun g => OWp g a v40.toInt z ∧ ZI g a (v40.toInt + 1)) hz ha ht h43 h0 c1 et (fun g u p => ⟨p.1.keep (by omega) h0 c1, fun j h1 h2 => by rw [upd_ne (by omega)]; exact p.2 j h1 h2⟩) (fun g p q0 q1 => ih _ _ (by omega) (by omega) (by omega) (by rw [e1]; exact p.1.done (p := 4 * a + v40.toInt.toNat) (by omega) q0 (by omega)) (by rw [e1]; exact p.2)) _ g (Nat.lt_succ_self _) (by rw [hg0]; decide) (by rw [hg0, ii_0]; omega) ⟨hO, fun j h1 h2 => hZ j (by omega) h2⟩⟩
theorem isB_max {x y : Int32} (hx : x = 0 ∨ x = 1) (hy : y = 0 ∨ y = 1) : (if x < y then y else x) = 0 ∨ (if x < y then y else x) = 1 := by
  rcases hx with rfl | rfl <;> rcases hy with rfl | rfl <;> decide
theorem isB_mul {x y : Int32} (hx : x = 0 ∨ x = 1) (hy : y = 0 ∨ y = 1) : x * y = 0 ∨ x * y = 1 := by
  rcases hx with rfl | rfl <;> rcases hy with rfl | rfl <;> decide
theorem isB_dif {x y : Int32} (hx : x = 0 ∨ x = 1) (hy : y = 0 ∨ y = 1) : (if x - y < 0 then (0 : Int32) else x - y) = 0 ∨ (if x - y < 0 then (0 : Int32) else x - y) = 1 := by
  rcases hx with rfl | rfl <;> rcases hy with rfl | rfl <;> decide
theorem bt62 {μ : TMem} {f16 f19 f5 : Nat → Int32} {S1 S2 z : Nat} {v27 : Int32} {K : Option AI → Prop} (g1 : S1 ≤ 32) (g2 : S2 ≤ 32) (hf1 : ∀ k s : Nat, k < S1 → s < 3 → 0 ≤ (f5 (4 * k + s)).toInt ∧ (f5 (4 * k + s)).toInt < S1) (hf2 : ∀ k s : Nat, k < S2 → s < 3 → 0 ≤ (f16 (4 * k + s)).toInt ∧ (f16 (4 * k + s)).toInt < S2) (hg1 : ∀ k, k < S1 → (f5 (4 * k + 3) = 0 ∨ f5 (4 * k + 3) = 1)) (hg2 : ∀ k, k < S2 → (f16 (4 * k + 3) = 0 ∨ f16 (4 * k + 3) = 1)) (hz1 : 1 ≤ z) (hz : z ≤ 32) (h0 : (f19 0).toInt = z) (hV : MV f5 f16 S1 S2 f19 z z 0)
    (hK : ∀ g, OW (4 * z) g → K (some (4 * z, g))) :
    ∀ (n : Nat) (v26 : Int32) (g : Nat → Int32) (a : Nat), z - a < n → v26.toInt = a → a ≤ z → OWp g ((a : Int) - 1) 3 z → ZI g a 0 → wpl_X11_both_62 μ f16 (4 * S2) f19 100 (4 * z) f5 (4 * S1) v27 K n v26 g := by
  intro n
  induction n with
  | zero => intro v26 g a hk; exact absurd hk (Nat.not_lt_zero _)
  | succ n ih =>
    intro v26 g a hk h26 haz hO hZ
    refine ⟨vin (by rw [ii_0]; omega), fun c => ?_, fun c => ?_⟩
    · have c : (f19 0).toInt ≤ v26.toInt := l_le.mp c
      have e : a = z := by omega
      subst e
      have := OWp.ow (f := g) (g := g) (u := f19 0) (by omega) (by omega) (by rw [h0]; exact hO) (fun _ _ => rfl)
      rw [h0, Int.toNat_natCast] at this
      exact hK g this
    have c1 : v26.toInt < (f19 0).toInt := nle c
    have e1 := inc_i c
    rw [h0] at c1
    have ha : a < z := by omega
    have i1 : ((3 : Int32) * v26 + (1 : Int32)).toInt = 3 * (a : Int) + 1 := i3 h26 (by omega) (by decide) (by decide)
    have i2 : ((3 : Int32) * v26 + (1 : Int32)).toNatClampNeg = 3 * a + 1 := by rw [ii_cl, i1]; omega
    have hp := hV.1 a ha
    obtain ⟨p1, p2⟩ := hp.parts
    obtain ⟨r1, r2, r3⟩ := hp
    obtain ⟨x1, x2, x3⟩ := fourk (x := (f19 (3 * a + 1)) / (32 : Int32)) (y := (3 : Int32)) (S := S1) (by omega) (by omega) g1 (by decide) (by decide)
    obtain ⟨y1, y2, y3⟩ := fourk (x := (f19 (3 * a + 1)) - (f19 (3 * a + 1)) / (32 : Int32) * (32 : Int32)) (y := (3 : Int32)) (S := S2) (by omega) (by omega) g2 (by decide) (by decide)
    obtain ⟨w1, w2, w3⟩ := fourk (x := v26) (y := (3 : Int32)) (S := z) (by omega) (by omega) hz (by decide) (by decide)
    have w4 : ((4 : Int32) * v26 + (3 : Int32)).toNatClampNeg = 4 * a + 3 := by rw [w2, show (3 : Int32).toInt.toNat = 3 from rfl]; omega
    have hx := hg1 ((f19 (3 * a + 1)) / (32 : Int32)).toInt.toNat (by omega)
    have hy := hg2 ((f19 (3 * a + 1)) - (f19 (3 * a + 1)) / (32 : Int32) * (32 : Int32)).toInt.toNat (by omega)
    rw [show (3 : Int32).toInt.toNat = 3 from rfl] at x2 y2
    rw [← x2] at hx
    rw [← y2] at hy
    have vi : vp_in ((3 : Int32) * v26 + (1 : Int32)) 100 := vin (by omega)
    refine ⟨vi, vi, ?_⟩
    rw [i2]
    refine ⟨x3, y3, ?_⟩
    intro J hJ
    have key : ∀ j : Int32, (j = 0 ∨ j = 1) → J j := by
      intro j hj
      refine hJ j ⟨w3, ?_⟩
      rw [w4]
      refine ⟨_, bt189 g1 g2 hf1 hf2 hz ha h26 hV (fun g' hO' hZ' => ih _ _ (a + 1) (by omega) (by omega) (by omega) (by rw [show (((a + 1 : Nat) : Int) - 1) = a by omega]; exact hO') (fun j g1 g2 => hZ' j (by omega) (by omega))) _ 0 _ (Nat.lt_succ_self _) (by decide) (by decide) (hO.row (by omega) (by omega) hj) (fun j g1 g2 => ?_)⟩
      rw [ii_0] at g1
      rw [upd_ne g2]
      exact hZ j g1 g2
    exact ⟨fun _ => ⟨fun _ => ⟨fun _ => ⟨fun _ => key _ (Or.inr rfl), fun _ => key _ (Or.inl rfl)⟩, fun _ => key _ (isB_dif hx hy)⟩, fun _ => key _ (isB_mul hx hy)⟩, fun _ => key _ (isB_max hx hy)⟩
theorem t_both {a1 a2 a3 : Int32} {K : Option AI → Prop} (m1 : M1 a1) (m2 : M1 a2) (hI : RI μ) (h : ∀ r, OWo r → K r) : wp_X11_both μ a1 a2 a3 K := by
  have h0 : K none := h none (fun n f e => by cases e)
  obtain ⟨r1, o1, k1⟩ := owm μ a1 hI m1.1 m1.2
  obtain ⟨r2, o2, k2⟩ := owm μ a2 hI m2.1 m2.2
  refine k1 μ (fun _ _ => rfl) _ ⟨fun e1 => k2 μ (fun _ _ => rfl) _ ⟨fun _ => h0, fun _ _ _ => h0⟩, fun n4 f5 e1 => k2 μ (fun _ _ => rfl) _ ⟨fun _ => h0, fun n15 f16 e2 => ?_⟩⟩
  obtain ⟨S1, g11, g1, rfl, hf1, hg1⟩ := (o1 n4 f5 e1).get
  obtain ⟨S2, g12, g2, rfl, hf2, hg2⟩ := (o2 n15 f16 e2).get
  refine t_met (M := 32) g11 g12 g1 g2 hf1 hf2 rfl (by decide) (by decide) (fun f19 hf => ⟨vin (by rw [ii_0]; omega), fun c => ⟨vin (by rw [ii_0]; omega), ?_⟩, fun _ => h0⟩)
  obtain ⟨z, e0, hz1, hz2, _, hV, _⟩ := hf
  have c : (f19 0).toInt ≤ 32 := l_le.mp c
  rw [e0] at c
  have k1 : ((4 : Int32) * (f19 0)).toInt = 4 * (z : Int) := ii_m rfl e0 (by omega) (by omega)
  have k2 : ((4 : Int32) * (f19 0)).toNatClampNeg = 4 * z := by rw [ii_cl, k1]; omega
  have k0 : (f19 (0 : Int32).toNatClampNeg) = f19 0 := rfl
  rw [k0, k2]
  refine ⟨⟨fun c => ?_, by omega⟩, _, bt62 g1 g2 hf1 hf2 hg1 hg2 hz1 (by omega) e0 (hV (by omega) rfl) (fun g hg => h _ (fun n f e => by cases e; exact hg)) _ 0 (fun _ => 0) 0 (Nat.lt_succ_self _) rfl (by omega) ⟨fun k i _ hk => by omega, fun k hk => by omega⟩ (fun _ _ _ => rfl)⟩
  rw [l_lt, k1, ii_0] at c
  omega
end RMB
end
/-! part 9f.rm3 -/
section
section RMC
variable {Q : Int32 → Prop} {Qm : Int32 → TMem → Prop} {Qv : TMem → Prop} {μ : TMem}
theorem t_combine {a1 a2 a3 a4 : Int32} (hI : RI μ) (h : ∀ (r : Int32) (μ9 : TMem), FQ μ μ9 → Qm r μ9) : wp_X11_combine μ a1 a2 a3 a4 Qm := by
  refine t_isOne (fun r1 b1 h1 => ?_)
  intro J hJ
  have key : ∀ j : Int32, (j ≠ 0 → M1 a1 ∧ M1 a2 ∧ M1 a4) → J j := by
    intro j hj
    refine hJ j (t_isIn (fun r4 b4 h4 => t_thr hI (h 0) (fun μ5 f5 c1 c2 => ?_)))
    obtain ⟨m1, m2, m4⟩ := hj c1
    have q : ∀ (r : Int32) (μ9 : TMem), FQ μ5 μ9 → Qm r μ9 := fun r μ9 f9 => h _ _ (f5.trans f9)
    exact t_both m1 m2 f5.1 (fun r hr => ⟨fun _ => ⟨fun _ => t_become_n f5.1 q, fun n f e => by cases e⟩, fun n f e => (lst n f (hr n f e)).use (fun r' hr' => ⟨fun _ => t_become_n f5.1 q, fun n f e => t_become (hr' n f e) m4 f5.1 q⟩)⟩)
  have no : J 0 := key 0 (fun z => absurd rfl z)
  exact ⟨fun _ => no, fun c1 => t_isOne (fun r2 b2 h2 => ⟨fun _ => no, fun c2 => t_isOne (fun r3 b3 h3 => ⟨fun _ => no, fun c3 => key 1 (fun _ => ⟨h1 c1, h2 c2, h3 c3⟩)⟩)⟩)⟩
theorem t_pairs {a1 a2 : Int32} (hI : RI μ) (h : ∀ (r : Int32) (μ9 : TMem), FQ μ μ9 → Qm r μ9) : wp_X11_pairs μ a1 a2 Qm := by
  refine t_two (fun j hj => t_thr hI (h 0) (fun μ4 f4 c1 c2 => ?_))
  obtain ⟨m1, m2⟩ := hj c1
  refine t_pairsOf m1 m2 f4.1 ?_ (fun f _ hf => ?_)
  · exact ⟨fun _ => t_isCrowded_n f4.1 (fun μ9 f9 => ⟨fun z => absurd z (by decide), fun _ => h _ _ (f4.trans f9)⟩), fun n f e => by cases e⟩
  · refine ⟨fun e => (by cases e), fun n f e => ?_⟩
    cases e
    exact t_isCrowded f4.1 (fun μ9 f9 => ⟨fun _ => ⟨vin (by rw [ii_0]; omega), h _ _ (f4.trans f9)⟩, fun _ => h _ _ (f4.trans f9)⟩)
theorem t_isAlike {a1 a2 a3 : Int32} (hI : RI μ) (h : ∀ (r : Int32) (μ9 : TMem), FQ μ μ9 → Qm r μ9) : wp_X11_isAlike μ a1 a2 a3 Qm := by
  refine t_two (fun j hj => t_isIn (fun r4 b4 h4 => t_thr hI (h 0) (fun μ5 f5 c1 c2 => ?_)))
  obtain ⟨m1, m2⟩ := hj c1
  have q : ∀ (r : Int32) (μ9 : TMem), FQ μ5 μ9 → Qm r μ9 := fun r μ9 f9 => h _ _ (f5.trans f9)
  refine ⟨fun _ => t_fnd m1 f5.1 (fun r hr => ⟨fun _ => t_fnd m2 f5.1 (fun r' hr' => ⟨fun _ => t_isCrowded_n f5.1 (fun μ6 f6 => ⟨fun _ => q _ _ f6, fun z => absurd z (by decide)⟩), fun n f e => t_isCrowded_n f5.1 (fun μ6 f6 => ⟨fun _ => q _ _ f6, fun z => absurd z (by decide)⟩)⟩), fun n f e => t_fnd m2 f5.1 (fun r' hr' => ⟨fun _ => t_isCrowded f5.1 (fun μ6 f6 => ⟨fun _ => q _ _ f6, fun _ => t_isCrowded_n f6.1 (fun μ7 f7 => ⟨fun z => absurd z (by decide), fun _ => q _ _ (f6.trans f7)⟩)⟩), fun n' f' e' => t_isCrowded f5.1 (fun μ6 f6 => ⟨fun _ => q _ _ f6, fun _ => t_isCrowded f6.1 (fun μ7 f7 => ⟨fun _ => ?_, fun _ => q _ _ (f6.trans f7)⟩)⟩)⟩)⟩), fun _ => ?_⟩
  · obtain ⟨S1, g11, g1, rfl, _, _⟩ := (hr n f e).get
    obtain ⟨S2, g12, g2, rfl, _, _⟩ := (hr' n' f' e').get
    have q3 := (quart g1).2.2.1
    have q4 := (quart g2).2.2.1
    have L : ∀ (n : Nat) (v52 v53 : Int32), ((4 * (S1 : Int)) - v52.toInt).toNat < n → 0 ≤ v52.toInt → (v53 = 0 ∨ (v53 = 1 ∧ S1 = S2)) → wpl_X11_isAlike_130 μ7 f (4 * S1) f' (4 * S2) Qm n v52 v53 := by
      intro n
      induction n with
      | zero => intro v52 v53 hk; exact absurd hk (Nat.not_lt_zero _)
      | succ n ih =>
        intro v52 v53 hk h0 hb
        have hb' : isB v53 := hb.imp id And.left
        refine ⟨fun _ => ⟨hb', q _ _ (f6.trans f7)⟩, fun c0 => ⟨fun _ => ⟨hb', q _ _ (f6.trans f7)⟩, fun c => ?_⟩⟩
        have c1 := nle c
        have e1 := inc_i c
        rw [q3] at c1
        have e2 := (hb.resolve_left c0).2
        exact ⟨vin (by omega), vin (by omega), fun _ => ih _ _ (by omega) (by omega) (Or.inl rfl), fun _ => ih _ _ (by omega) (by omega) (Or.inr ⟨rfl, e2⟩)⟩
    intro J hJ
    refine ⟨fun _ => hJ _ ⟨_, L _ 0 0 (Nat.lt_succ_self _) (by decide) (Or.inl rfl)⟩, fun c => hJ _ ⟨_, L _ 0 1 (Nat.lt_succ_self _) (by decide) (Or.inr ⟨rfl, ?_⟩)⟩⟩
    have := congrArg Int32.toInt c
    rw [q3, q4] at this
    omega
  · refine t_pairsOf m1 m2 f5.1 ?_ (fun f _ hf => ?_)
    · exact ⟨fun _ => t_isCrowded_n f5.1 (fun μ9 f9 => ⟨fun _ => q _ _ f9, fun z => absurd z (by decide)⟩), fun n f e => by cases e⟩
    refine ⟨fun e => (by cases e), fun n f' e => ?_⟩
    cases e
    exact t_isCrowded' f5.1 (fun μ9 f9 e9 => ⟨fun _ => q _ _ f9, fun _ => hf μ9 e9 _ (fun r _ => ⟨fun _ => q _ _ f9, fun _ => q _ _ f9⟩)⟩)
theorem t_together {a1 a2 a3 a4 : Int32} (hI : RI μ) (h : ∀ (r : Int32) (μ9 : TMem), FQ μ μ9 → Qm r μ9) : wp_X11_together μ a1 a2 a3 a4 Qm := by
  refine t_two (fun j hj => t_isIn (fun r4 b4 h4 => ?_))
  intro J hJ
  have key : ∀ i : Int32, (i ≠ 0 → -1 ≤ a4.toInt ∧ a4.toInt ≤ 12) → J i := by
    intro i hi
    refine hJ i (t_thr hI (h 0) (fun μ5 f5 c1 c2 => ?_))
    obtain ⟨m1, m2⟩ := hj c1
    have hl := hi c2
    have q : ∀ (r : Int32) (μ9 : TMem), FQ μ5 μ9 → Qm r μ9 := fun r μ9 f9 => h _ _ (f5.trans f9)
    refine t_both m1 m2 f5.1 (fun r hr => ⟨fun _ => ⟨fun _ => t_isCrowded_n f5.1 (fun μ6 f6 => ⟨fun z => absurd z (by decide), fun _ => q _ _ f6⟩), fun n f e => by cases e⟩, fun n f e => (lst n f (hr n f e)).use (fun r' hr' => ⟨fun _ => t_isCrowded_n f5.1 (fun μ6 f6 => ⟨fun z => absurd z (by decide), fun _ => q _ _ f6⟩), fun n' f' e' => t_isCrowded f5.1 (fun μ6 f6 => ⟨fun _ => ⟨fun c => ?_, fun _ => q _ _ f6⟩, fun _ => q _ _ f6⟩)⟩)⟩)
    have ho := hr' n' f' e'
    obtain ⟨S, _, _, rfl, _, _⟩ := ho.get
    have c9 : a4.toInt ≠ -1 := fun e => c (l_eq.mpr (by rw [e]; rfl))
    exact t_ways ho (by omega) (fun r => q _ _ f6)
  have no : J 0 := key 0 (fun z => absurd rfl z)
  exact ⟨fun _ => no, fun c => t_isIn (fun r5 b5 h5 => ⟨fun _ => no, fun c5 => key 1 (fun _ => h5 c5)⟩)⟩
theorem t_house {a1 : Int32} (hI : RI μ) (h : ∀ (r : Int32) (μ9 : TMem), FQ μ μ9 → Qm r μ9) : wp_X11_house μ a1 Qm := by
  exact t_isIn (fun r1 b1 h1 => t_thr hI (h 0) (fun μ2 f2 c1 c2 => ⟨fun _ => ⟨fun _ => h _ _ f2, fun _ => h _ _ f2⟩, fun _ => h _ _ f2⟩))
theorem t_knock (hI : RI μ) (h : ∀ μ9 : TMem, RI μ9 → μ9 0 6 = μ 0 6 + 1 → Qm (μ 0 6 + 1) μ9) : wp_X11_knock μ Qm := by
  have f1 : FQ μ (tms μ 0 7 0) := (FQ.rf hI).st (by decide) (Or.inr (by decide))
  have e : (tms (tms μ 0 7 0) 0 6 (((tms μ 0 7 0) 0 6) + 1)) 0 6 = μ 0 6 + 1 := by simp [tms, upd]
  have e' : wp_X11_knock μ Qm = Qm ((tms (tms μ 0 7 0) 0 6 (((tms μ 0 7 0) 0 6) + 1)) 0 6) (tms (tms μ 0 7 0) 0 6 (((tms μ 0 7 0) 0 6) + 1)) := rfl
  rw [e', e]
  exact h _ (fun j hj => f1.1 j hj) e
theorem t_isSound (hI : RI μ) (h : ∀ μ9 : TMem, FQ μ μ9 → Qm 1 μ9) : wp_X11_isSound μ Qm := h _ ((FQ.rf hI).st (by decide) (Or.inr (by decide)))
theorem t_digest {Qd : Int64 → TMem → Prop} (hI : RI μ) (h : ∀ (r : Int64) (μ9 : TMem), FQ μ μ9 → Qd r μ9) : wp_X11_digest μ Qd := by
  have L14 : ∀ (v8 : Int32) (K : Int64 → TMem → Prop), (∀ u μ9, FQ μ μ9 → K u μ9) → ∀ (n : Nat) (v7 : Int32) (v9 : Int64) (μ10 : TMem), ((5 : Int) - v7.toInt).toNat < n → FQ μ μ10 → wpl_X11_digest_14 v8 K n v7 v9 μ10 := by
    intro v8 K hK n
    induction n with
    | zero => intro v7 v9 μ10 hk; exact absurd hk (Nat.not_lt_zero _)
    | succ n ih =>
      intro v7 v9 μ10 hk f
      refine ⟨fun _ => hK _ _ f, fun c => ?_⟩
      have c1 := nle c
      have e1 := inc_i c
      rw [show (5 : Int32).toInt = 5 from rfl] at c1
      exact t_tell f.1 (fun r μ9 f9 => ih _ _ _ (by omega) (f.trans f9))
  have L44 : ∀ (μ16 : TMem) (v19 : Int32) (K : Int64 → Prop), M1 v19 → RI μ16 → (∀ u, K u) → ∀ (n : Nat) (v18 : Int32) (v20 : Int64), ((21 : Int) - v18.toInt).toNat < n → 0 ≤ v18.toInt → wpl_X11_digest_44 μ16 v19 K n v18 v20 := by
    intro μ16 v19 K hm hI6 hK n
    induction n with
    | zero => intro v18 v20 hk; exact absurd hk (Nat.not_lt_zero _)
    | succ n ih =>
      intro v18 v20 hk h0
      refine ⟨hm.in4, fun _ => hK _, fun c => ?_⟩
      have c1 := nle c
      have e1 := inc_i c
      have r7 := hm.ri hI6
      have k : ((μ16 1 v19.toNatClampNeg) * (3 : Int32)).toInt = (μ16 1 v19.toNatClampNeg).toInt * 3 := ii_m rfl rfl (by omega) (by omega)
      rw [k] at c1
      exact t_key0 hm (fun r23 _ g23 => ⟨g23 _ h0 (by omega), ih _ _ (by omega) (by omega)⟩)
  have L6 : ∀ (K : Int64 → TMem → Prop), (∀ u μ9, FQ μ μ9 → K u μ9) → ∀ (n : Nat) (v2 : Int32) (v3 : Int64) (μ4 : TMem), ((4 : Int) - v2.toInt).toNat < n → 0 ≤ v2.toInt → FQ μ μ4 → wpl_X11_digest_6 K n v2 v3 μ4 := by
    intro K hK n
    induction n with
    | zero => intro v2 v3 μ4 hk; exact absurd hk (Nat.not_lt_zero _)
    | succ n ih =>
      intro v2 v3 μ4 hk h0 f
      refine ⟨fun _ => hK _ _ f, fun c => ?_⟩
      have c1 := nle c
      have e1 := inc_i c
      rw [show (4 : Int32).toInt = 4 from rfl] at c1
      exact ⟨_, L14 v2 _ (fun u μ9 f9 => ⟨_, L44 μ9 v2 _ ⟨h0, by omega⟩ f9.1 (fun u' => ih _ _ _ (by omega) (by omega) f9) _ 0 u (Nat.lt_succ_self _) (by decide)⟩) _ 0 v3 μ4 (Nat.lt_succ_self _) f⟩
  exact ⟨_, L6 _ (fun u μ9 f9 => h _ _ (f9.st (by decide) (Or.inr (by decide)))) _ 0 _ μ (Nat.lt_succ_self _) (by decide) (FQ.rf hI)⟩
end RMC
end
/-! part 9fa.sow1 -/
section
section SOW
theorem pop_ex : ∃ f : Int32 → Int32, f 0 = 0 ∧ ∀ (a : Int32) (Q : Int32 → Prop), Q (f a) → wp_J6_bitCount_0f7a4 a Q := by
  refine ⟨_, ?_, fun a Q h => h⟩
  decide
noncomputable def pop : Int32 → Int32 := Classical.choose pop_ex
theorem pop_0 : pop 0 = 0 := (Classical.choose_spec pop_ex).1
theorem pop_w {a : Int32} {Q : Int32 → Prop} (h : Q (pop a)) : wp_J6_bitCount_0f7a4 a Q := (Classical.choose_spec pop_ex).2 a Q h
/-- the next number drawn -/
def dr (x : Int32) : Int32 := ((x * (25173 : Int32)) + (13849 : Int32)) - ((x * (25173 : Int32)) + (13849 : Int32)) / (65536 : Int32) * (65536 : Int32)
def md (a b : Int32) : Int32 := a - a / b * b
/-- a set sown for a choice other than 0: (set, number) after it -/
def SS (n ch : Int32) : Nat → Int32 → Int32 → Int32 → Int32 × Int32
  | 0, _, s, x => (s, x)
  | k + 1, t, s, x => if n ≤ t then (s, x) else SS n ch k (t + (1 : Int32)) (if md (dr x / (64 : Int32)) (ch + (1 : Int32)) = 0 then s ||| ((1 : Int32) <<< (t &&& 31)) else s) (dr x)
def CS (n ch x : Int32) : Int32 × Int32 := if ch = 0 then ((1 : Int32) <<< (md (dr x / (64 : Int32)) n &&& 31), dr x) else SS n ch 8 0 0 x
/-- the number before the cell i, and the cell -/
def XS (n ch seed : Int32) : Nat → Int32
  | 0 => seed
  | i + 1 => (CS n ch (XS n ch seed i)).2
def CE (n ch seed : Int32) (i : Nat) : Int32 := (CS n ch (XS n ch seed i)).1
noncomputable def AN (n ch seed : Int32) : Nat → Int32
  | 0 => 0
  | i + 1 => AN n ch seed i + pop (CE n ch seed i)
variable {μ : TMem} {k0 : Nat} {n ch : Int32}
theorem e_draw {Q : Int32 → TMem → Prop} (h : ∀ μ9 : TMem, Fr 3 μ μ9 → (∀ k, k ≠ 14 → μ9 k = μ k) → μ9 14 0 = dr (μ 14 0) → Q (dr (μ 14 0) / (64 : Int32)) μ9) : wp_X0_draw μ Q := by
  have e : (tms μ 14 0 (dr (μ 14 0))) 14 0 = dr (μ 14 0) := by simp [tms, upd]
  have e' : wp_X0_draw μ Q = Q (((tms μ 14 0 (dr (μ 14 0))) 14 0) / (64 : Int32)) (tms μ 14 0 (dr (μ 14 0))) := rfl
  rw [e', e]
  exact h _ (Fr.st Fr.rf (by rfl) (Or.inl (by decide))) (fun k hk => by simp [tms, hk]) e
theorem k14 (hk : kd k0 = 2) : k0 ≠ 14 ∧ k0 + 1 ≠ 14 := by
  refine ⟨fun e => by rw [e] at hk; exact absurd hk (by decide), fun e => ?_⟩
  have : k0 = 13 := by omega
  rw [this] at hk
  exact absurd hk (by decide)
theorem e_some (hk : kd k0 = 2) (hn : μ k0 1 = n) (hn7 : n.toInt ≤ 7) (hc : 0 ≤ ch.toInt ∧ ch.toInt ≤ 6) {Q : Int32 → TMem → Prop} (h : ∀ μ9 : TMem, Fr 3 μ μ9 → (∀ k, k ≠ 14 → μ9 k = μ k) → μ9 14 0 = (SS n ch 8 0 0 (μ 14 0)).2 → Q (SS n ch 8 0 0 (μ 14 0)).1 μ9) : wp_X2_sowSome k0 μ ch Q := by
  have d0 : ¬ ch < 0 := by rw [l_lt, ii_0]; omega
  have d1 : ¬ (ch + (1 : Int32)) = 0 := by
    intro e
    have := congrArg Int32.toInt e
    rw [show (ch + (1 : Int32)).toInt = ch.toInt + 1 from ii_a rfl rfl (by omega) (by omega), ii_0] at this
    omega
  have L : ∀ (nf f : Nat) (t sv : Int32) (μ5 : TMem), ((7 : Int) - t.toInt).toNat < nf → ((7 : Int) - t.toInt).toNat < f → Fr 3 μ μ5 → (∀ k, k ≠ 14 → μ5 k = μ k) → SS n ch f t sv (μ5 14 0) = SS n ch 8 0 0 (μ 14 0) → wpl_X2_sowSome_5 k0 ch Q nf t sv μ5 := by
    intro nf
    induction nf with
    | zero => intro f t sv μ5 hk; exact absurd hk (Nat.not_lt_zero _)
    | succ nf ih =>
      intro f t sv μ5 hk1 hf fr hm hS
      obtain ⟨g, rfl⟩ : ∃ g, f = g + 1 := ⟨f - 1, by omega⟩
      have hn5 : μ5 k0 1 = n := by rw [hm k0 (k14 hk).1]; exact hn
      refine ⟨fun c => ?_, fun c => e_draw (fun μ9 f9 m9 x9 => ⟨fun z => absurd z d0, fun _ => ⟨d1, fun c2 => ?_, fun c2 => ?_⟩⟩)⟩
      · rw [hn5] at c
        have e : SS n ch (g + 1) t sv (μ5 14 0) = (sv, μ5 14 0) := by rw [SS, if_pos c]
        rw [e] at hS
        have := h μ5 fr hm (by rw [← hS])
        rw [← hS] at this
        exact this
      all_goals
        rw [hn5] at c
        have c1 := nle c
        have e1 := inc_i c
        refine ih g _ _ μ9 (by omega) (by omega) (fr.trans f9) (fun k hk => (m9 k hk).trans (hm k hk)) ?_
        rw [← hS, SS, if_neg c, x9]
        first | rw [if_neg (show ¬ md (dr (μ5 14 0) / (64 : Int32)) (ch + (1 : Int32)) = 0 from c2)] | rw [if_pos (show md (dr (μ5 14 0) / (64 : Int32)) (ch + (1 : Int32)) = 0 from c2)]
  exact ⟨_, L _ 8 0 0 μ (Nat.lt_succ_self _) (by decide) Fr.rf (fun _ _ => rfl) rfl⟩
theorem e_one (hk : kd k0 = 2) (hn : μ k0 1 = n) (hn1 : 1 ≤ n.toInt) {Q : Int32 → TMem → Prop} (h : ∀ μ9 : TMem, Fr 3 μ μ9 → (∀ k, k ≠ 14 → μ9 k = μ k) → μ9 14 0 = dr (μ 14 0) → Q ((1 : Int32) <<< (md (dr (μ 14 0) / (64 : Int32)) n &&& 31)) μ9) : wp_X2_sowOne k0 μ Q := by
  refine e_draw (fun μ9 f9 m9 x9 => ?_)
  have hn9 : μ9 k0 1 = n := by rw [m9 k0 (k14 hk).1]; exact hn
  refine ⟨fun c => ?_, fun _ => ?_⟩
  · rw [hn9, l_le, ii_0] at c
    omega
  · rw [hn9]
    refine ⟨fun e => ?_, h μ9 f9 m9 x9⟩
    rw [e, ii_0] at hn1
    omega
end SOW
end
/-! part 9fb.sow2 -/
section
section SOX
variable {μ : TMem} {k0 : Nat} {n ch : Int32}
theorem tl21 (hk : kd k0 = 2) : 21 ≤ tl (k0 + 1) := by
  have h : ∀ k : Nat, k < 59 → kd k = 2 → 21 ≤ tl (k + 1) := by decide
  by_cases e : k0 < 59
  · exact h k0 e hk
  · have h9 : kd k0 = 99 := by
      unfold kd
      rw [List.getD_eq_getElem?_getD, List.getElem?_eq_none (by simp [tkl]; omega)]
      rfl
    rw [h9] at hk
    exact absurd hk (by decide)
theorem tlhi (k : Nat) : tl k ≤ 1024 := by
  by_cases e : k < 59
  · have h : ∀ k : Nat, k < 59 → tl k ≤ 1024 := by decide
    exact h k e
  · have h9 : tl k = 0 := by
      unfold tl
      rw [List.getD_eq_getElem?_getD, List.getElem?_eq_none (by simp [tll]; omega)]
      rfl
    omega
theorem plc {a b : Int32} {i j : Nat} (ha : a.toInt = i) (hb : b.toInt = j) (hi : i ≤ 6) (hj : j ≤ 2) : (a * (3 : Int32) + b).toInt = 3 * (i : Int) + j ∧ (a * (3 : Int32) + b).toNatClampNeg = 3 * i + j := by
  have k : (a * (3 : Int32) + b).toInt = (i : Int) * 3 + j := ii_a (ii_m ha rfl (by omega) (by omega)) hb (by omega) (by omega)
  exact ⟨by omega, by rw [ii_cl, k]; omega⟩
theorem e_put (hk : kd k0 = 2) {a b v : Int32} {i j : Nat} (ha : a.toInt = i) (hb : b.toInt = j) (hi : i ≤ 6) (hj : j ≤ 2) {Q : TMem → Prop} (h : Fr 3 μ (tms μ (k0 + 1) (3 * i + j) v) → Q (tms μ (k0 + 1) (3 * i + j) v)) : wp_X7_put k0 μ a b v Q := by
  obtain ⟨p1, p2⟩ := plc ha hb hi hj
  have t1 := tl21 hk
  have t2 := tlhi (k0 + 1)
  refine ⟨fun c => ?_, fun _ => ⟨fun c => ?_, fun _ => ⟨vin (by omega), ?_⟩⟩⟩
  · rw [l_lt, ii_0] at c
    omega
  · rw [l_le, ii_nI (by omega)] at c
    omega
  · rw [p2]
    exact h (Fr.st Fr.rf (by rw [show kd (k0 + 1) = 9 from ka_25 (Or.inl hk)] <;> rfl) (Or.inl (ne43b (Or.inl hk))))
theorem e_at (hk : kd k0 = 2) {a b : Int32} {i j : Nat} (ha : a.toInt = i) (hb : b.toInt = j) (hi : i ≤ 6) (hj : j ≤ 2) {Q : Int32 → Prop} (h : Q (μ (k0 + 1) (3 * i + j))) : wp_X7_at k0 μ a b Q := by
  obtain ⟨p1, p2⟩ := plc ha hb hi hj
  have t1 := tl21 hk
  have t2 := tlhi (k0 + 1)
  refine ⟨fun c => ?_, fun _ => ⟨fun c => ?_, fun _ => ⟨vin (by omega), ?_⟩⟩⟩
  · rw [l_lt, ii_0] at c
    omega
  · rw [l_le, ii_nI (by omega)] at c
    omega
  · rw [p2]
    exact h
/-- the cells before i are sown -/
def SC (n ch seed : Int32) (k0 : Nat) (μ μ4 : TMem) (i : Nat) : Prop := Fr 3 μ μ4 ∧ μ4 k0 1 = n ∧ μ4 14 0 = XS n ch seed i ∧ ∀ j, j < i → μ4 (k0 + 1) j = CE n ch seed j
theorem e_arrows {seed : Int32} (hk : kd k0 = 2) (hn1 : 1 ≤ n.toInt) (hn7 : n.toInt ≤ 7) (hc : 0 ≤ ch.toInt ∧ ch.toInt ≤ 6) (hs : SC n ch seed k0 μ μ 0) {Q : TMem → Prop} (h : ∀ μ9 : TMem, SC n ch seed k0 μ μ9 (3 * n.toInt.toNat) → Q μ9) : wp_X2_sowArrows k0 μ ch Q := by
  have L13 : ∀ (v8 : Int32) (a : Nat) (K : TMem → Prop), v8.toInt = a → a ≤ 6 → (∀ μ9, SC n ch seed k0 μ μ9 (3 * a + 3) → K μ9) → ∀ (nf : Nat) (v7 : Int32) (b : Nat) (μ4 : TMem), 3 - b < nf → v7.toInt = b → b ≤ 3 → SC n ch seed k0 μ μ4 (3 * a + b) → wpl_X2_sowArrows_13 k0 v8 ch K nf v7 μ4 := by
    intro v8 a K hv ha hK nf
    induction nf with
    | zero => intro v7 b μ4 hk; exact absurd hk (Nat.not_lt_zero _)
    | succ nf ih =>
      intro v7 b μ4 hk1 hb hb3 hS
      refine ⟨fun c => ?_, fun c => ?_⟩
      · rw [l_le, show (3 : Int32).toInt = 3 from rfl] at c
        have e : b = 3 := by omega
        subst e
        exact hK μ4 hS
      have c1 := nle c
      have e1 := inc_i c
      rw [show (3 : Int32).toInt = 3 from rfl] at c1
      obtain ⟨s1, s2, s3, s4⟩ := hS
      intro J hJ
      have key : ∀ (r : Int32) (μ9 : TMem), Fr 3 μ4 μ9 → (∀ k, k ≠ 14 → μ9 k = μ4 k) → μ9 14 0 = (CS n ch (μ4 14 0)).2 → r = (CS n ch (μ4 14 0)).1 → J r μ9 := by
        intro r μ9 f9 m9 x9 hr
        refine hJ r μ9 (e_put hk (i := a) (j := b) hv hb ha (by omega) (fun f8 => ih _ (b + 1) _ (by omega) (by omega) (by omega) ⟨(s1.trans f9).trans f8, ?_, ?_, fun j hj => ?_⟩))
        · have : k0 ≠ k0 + 1 := by omega
          simp only [tms, if_neg this]
          rw [m9 k0 (k14 hk).1]
          exact s2
        · have : (14 : Nat) ≠ k0 + 1 := fun e => (k14 hk).2 e.symm
          simp only [tms, if_neg this]
          rw [x9, s3]
          rfl
        · by_cases e : j = 3 * a + b
          · subst e
            simp only [tms, upd, if_true]
            rw [hr, s3]
            rfl
          · simp only [tms, upd, if_true, if_neg e]
            rw [m9 _ (k14 hk).2]
            exact s4 j (by omega)
      refine ⟨fun c0 => e_some hk s2 hn7 hc (fun μ9 f9 m9 x9 => key _ μ9 f9 m9 ?_ ?_), fun c0 => e_one hk s2 hn1 (fun μ9 f9 m9 x9 => key _ μ9 f9 m9 ?_ ?_)⟩
      · rw [x9, CS, if_neg c0]
      · rw [CS, if_neg c0]
      · rw [x9, CS, if_pos c0]
      · rw [CS, if_pos c0]
  have L2 : ∀ (nf : Nat) (v2 : Int32) (a : Nat) (μ4 : TMem), 7 - a < nf → v2.toInt = a → (a : Int) ≤ n.toInt → SC n ch seed k0 μ μ4 (3 * a) → wpl_X2_sowArrows_2 k0 ch Q nf v2 μ4 := by
    intro nf
    induction nf with
    | zero => intro v2 a μ4 hk; exact absurd hk (Nat.not_lt_zero _)
    | succ nf ih =>
      intro v2 a μ4 hk1 hv han hS
      have hn4 := hS.2.1
      refine ⟨fun c => ?_, fun c => ?_⟩
      · rw [hn4, l_le] at c
        have e : a = n.toInt.toNat := by omega
        rw [e] at hS
        exact h μ4 hS
      have c1 := nle c
      have e1 := inc_i c
      rw [hn4] at c1
      exact ⟨_, L13 v2 a _ hv (by omega) (fun μ9 hS9 => ih _ (a + 1) μ9 (by omega) (by omega) (by omega) hS9) _ 0 0 μ4 (Nat.lt_succ_self _) rfl (by omega) hS⟩
  exact ⟨_, L2 _ 0 0 μ (Nat.lt_succ_self _) rfl (by omega) hs⟩
end SOX
end
/-! part 9fc.sow3 -/
section
section SOY
variable {μ : TMem} {k0 : Nat} {n ch : Int32}
theorem fr_slot {a b : TMem} {i : Nat} {v : Int32} (hk : kd k0 = 2) (h : Fr 3 a b) : Fr 3 a (tms b k0 i v) := Fr.st h (by rw [show kd k0 = 2 from hk] <;> rfl) (Or.inl (ne43 (K := 2) hk (by decide)))
theorem e_goals (hk : kd k0 = 2) (hn : μ k0 1 = n) (hn7 : n.toInt ≤ 7) {Q : TMem → Prop} (h : ∀ μ9 : TMem, Fr 3 μ μ9 → μ9 k0 1 = n → μ9 (k0 + 1) = μ (k0 + 1) → Q μ9) : wp_X2_sowGoals k0 μ Q := by
  have L : ∀ (nf : Nat) (v2 : Int32) (μ3 : TMem), ((7 : Int) - v2.toInt).toNat < nf → Fr 3 μ μ3 → μ3 k0 1 = n → μ3 (k0 + 1) = μ (k0 + 1) → wpl_X2_sowGoals_2 k0 Q nf v2 μ3 := by
    intro nf
    induction nf with
    | zero => intro v2 μ3 hk; exact absurd hk (Nat.not_lt_zero _)
    | succ nf ih =>
      intro v2 μ3 hk1 f3 s3 c3
      refine ⟨fun _ => h μ3 f3 s3 c3, fun c => e_draw (fun μ9 f9 m9 x9 => ?_)⟩
      rw [s3] at c
      have c1 := nle c
      have e1 := inc_i c
      have a1 : μ9 k0 1 = n := by rw [m9 k0 (k14 hk).1]; exact s3
      have a2 : μ9 (k0 + 1) = μ (k0 + 1) := (m9 _ (k14 hk).2).trans c3
      refine ⟨fun _ => ih _ μ9 (by omega) (f3.trans f9) a1 a2, fun _ => ih _ _ (by omega) (fr_slot hk (f3.trans f9)) ?_ ?_⟩
      · simp only [tms, upd, if_true]
        exact a1
      · have : k0 + 1 ≠ k0 := by omega
        simp only [tms, if_neg this]
        exact a2
  exact ⟨_, L _ 0 μ (Nat.lt_succ_self _) Fr.rf hn rfl⟩
theorem e_count {seed : Int32} (hk : kd k0 = 2) (hn : μ k0 1 = n) (hn1 : 1 ≤ n.toInt) (hn7 : n.toInt ≤ 7) (hc : ∀ i, i < 3 * n.toInt.toNat → μ (k0 + 1) i = CE n ch seed i) {Q : Int32 → Prop} (h : Q (AN n ch seed (3 * n.toInt.toNat))) : wp_X2_countArrows k0 μ Q := by
  have L14 : ∀ (v7 : Int32) (a : Nat) (K : Int32 → Prop), v7.toInt = a → (a : Int) < n.toInt → K (AN n ch seed (3 * a + 3)) → ∀ (nf : Nat) (v6 v8 : Int32) (b : Nat), 3 - b < nf → v6.toInt = b → b ≤ 3 → v8 = AN n ch seed (3 * a + b) → wpl_X2_countArrows_14 k0 μ v7 K nf v6 v8 := by
    intro v7 a K hv ha hK nf
    induction nf with
    | zero => intro v6 v8 b hk; exact absurd hk (Nat.not_lt_zero _)
    | succ nf ih =>
      intro v6 v8 b hk1 hb hb3 hS
      refine ⟨fun c => ?_, fun c => ?_⟩
      · rw [l_le, show (3 : Int32).toInt = 3 from rfl] at c
        have e : b = 3 := by omega
        subst e
        rw [hS]
        exact hK
      have c1 := nle c
      have e1 := inc_i c
      rw [show (3 : Int32).toInt = 3 from rfl] at c1
      refine e_at hk (i := a) (j := b) hv hb (by omega) (by omega) (pop_w (ih _ _ (b + 1) (by omega) (by omega) (by omega) ?_))
      rw [hS, hc _ (by omega)]
      rfl
  have L4 : ∀ (nf : Nat) (v2 v3 : Int32) (a : Nat), 7 - a < nf → v2.toInt = a → (a : Int) ≤ n.toInt → v3 = AN n ch seed (3 * a) → wpl_X2_countArrows_4 k0 μ Q nf v2 v3 := by
    intro nf
    induction nf with
    | zero => intro v2 v3 a hk; exact absurd hk (Nat.not_lt_zero _)
    | succ nf ih =>
      intro v2 v3 a hk1 hv han hS
      refine ⟨fun c => ?_, fun c => ?_⟩
      · rw [hn, l_le] at c
        have e : a = n.toInt.toNat := by omega
        rw [hS, e]
        exact h
      have c1 := nle c
      have e1 := inc_i c
      rw [hn] at c1
      exact ⟨_, L14 v2 a _ hv (by omega) (ih _ _ (a + 1) (by omega) (by omega) (by omega) rfl) _ 0 v3 0 (Nat.lt_succ_self _) rfl (by omega) hS⟩
  exact ⟨_, L4 _ 0 0 0 (Nat.lt_succ_self _) rfl (by omega) rfl⟩
theorem e_clear (hk : kd k0 = 2) (hn1 : 1 ≤ n.toInt) (hn7 : n.toInt ≤ 7) {Q : TMem → Prop} (h : ∀ μ9 : TMem, Fr 3 μ μ9 → μ9 k0 1 = n → (∀ k, k ≠ k0 → k ≠ k0 + 1 → μ9 k = μ k) → Q μ9) : wp_X2_clear k0 μ n Q := by
  have hne : k0 + 1 ≠ k0 := by omega
  have ha : ∀ (a : Nat) (μ4 : TMem) (K : TMem → Prop), (μ4 k0 1).toInt = a → a ≤ 6 → (∀ μ9 : TMem, Fr 3 μ4 μ9 → μ9 k0 1 = μ4 k0 1 + 1 → (∀ k, k ≠ k0 → k ≠ k0 + 1 → μ9 k = μ4 k) → K μ9) → wp_X2_addState k0 μ4 K := by
    intro a μ4 K hA ha6 hK
    have L : ∀ (nf : Nat) (v2 : Int32) (b : Nat) (μ3 : TMem), 3 - b < nf → v2.toInt = b → Fr 3 μ4 μ3 → μ3 k0 = μ4 k0 → (∀ k, k ≠ k0 → k ≠ k0 + 1 → μ3 k = μ4 k) → wpl_X2_addState_2 k0 K nf v2 μ3 := by
      intro nf
      induction nf with
      | zero => intro v2 b μ3 hk; exact absurd hk (Nat.not_lt_zero _)
      | succ nf ih =>
        intro v2 b μ3 hk1 hb f3 s3 m3
        refine ⟨fun _ => hK _ (fr_slot hk f3) ?_ (fun k h1 h2 => ?_), fun c => ?_⟩
        · simp only [tms, upd, if_true]
          rw [s3]
        · simp only [tms, if_neg h1]
          exact m3 k h1 h2
        have c1 := nle c
        have e1 := inc_i c
        rw [show (3 : Int32).toInt = 3 from rfl] at c1
        refine e_put hk (i := a) (j := b) (by rw [s3]; exact hA) hb ha6 (by omega) (fun f8 => ih _ (b + 1) _ (by omega) (by omega) (f3.trans f8) ?_ (fun k h1 h2 => ?_))
        · have : k0 ≠ k0 + 1 := by omega
          funext z
          simp only [tms, if_neg this]
          rw [s3]
        · simp only [tms, if_neg h2]
          exact m3 k h1 h2
    exact ⟨_, L _ 0 0 μ4 (Nat.lt_succ_self _) rfl Fr.rf rfl (fun _ _ _ => rfl)⟩
  have L12 : ∀ (nf : Nat) (v2 : Int32) (a : Nat) (μ4 : TMem), 7 - a < nf → v2.toInt = a → (a : Int) ≤ n.toInt → μ4 k0 1 = v2 → Fr 3 μ μ4 → (∀ k, k ≠ k0 → k ≠ k0 + 1 → μ4 k = μ k) → wpl_X2_clear_12 k0 n Q nf v2 μ4 := by
    intro nf
    induction nf with
    | zero => intro v2 a μ4 hk; exact absurd hk (Nat.not_lt_zero _)
    | succ nf ih =>
      intro v2 a μ4 hk1 hv han s4 f4 m4
      refine ⟨fun c => h _ (fr_slot hk f4) ?_ (fun k h1 h2 => ?_), fun c => ?_⟩
      · rw [l_le] at c
        have e : v2 = n := l_eq.mpr (by omega)
        simp only [tms, upd, if_true]
        rw [if_neg (by decide), s4, e]
      · simp only [tms, if_neg h1]
        exact m4 k h1 h2
      have c1 := nle c
      have e1 := inc_i c
      exact ha a μ4 _ (by rw [s4]; exact hv) (by omega) (fun μ9 f9 s9 m9 => ih _ (a + 1) μ9 (by omega) (by omega) (by omega) (by rw [s9, s4]) (f4.trans f9) (fun k h1 h2 => (m9 k h1 h2).trans (m4 k h1 h2)))
  refine ⟨_, L12 _ 0 0 _ (Nat.lt_succ_self _) rfl (by omega) ?_ (fr_slot hk (fr_slot hk Fr.rf)) (fun k h1 h2 => ?_)⟩
  · simp [tms, upd]
  · simp only [tms, if_neg h1]
end SOY
end
/-! part 9fd.sow4 -/
section
section SOZ
variable {μ : TMem} {n ch : Int32} {Q : Int32 → Prop} {Qm : Int32 → TMem → Prop} {Qv : TMem → Prop}
/-- where the cell i of the machine a lies -/
def LK (a : Int32) (i : Nat) : Nat := 21 * a.toInt.toNat + i
theorem r_key {a b c : Int32} {i j : Nat} (hm : M1 a) (hb : b.toInt = i) (hc : c.toInt = j) (hi : i ≤ 6) (hj : j ≤ 2) (h : ∀ r : Int32, vp_in r 84 → r.toNatClampNeg = LK a (3 * i + j) → Q r) : wp_X11_key a b c Q :=
  t_key hm ⟨by omega, by omega⟩ ⟨by omega, by omega⟩ (fun r hr => h r (in84 (by have := hm.1; omega) (by have := hm.2; omega)) (by have := hm.1; rw [ii_cl, hr, LK]; omega))
/-- sown as far as the cell i: nothing else of row 4 changed -/
theorem r_79 {a1 v28 v29 v33 x0 : Int32} {a b : Nat} {K : Int32 → TMem → Prop} (h28 : v28.toInt = b) (h29 : v29.toInt = a) (hb : b ≤ 2) (ha : a ≤ 6) (hm : M1 a1) (hn1 : 1 ≤ n.toInt) (hn7 : n.toInt ≤ 7) (h33 : 0 ≤ v33.toInt ∧ v33.toInt ≤ 6) (hI : RI μ) (hz : μ 4 (LK a1 (3 * a + b)) = 0)
    (hK : ∀ μ9 : TMem, FQ μ μ9 → (∀ j, j ≠ LK a1 (3 * a + b) → μ9 4 j = μ 4 j) → (∀ k, k ≠ 4 → μ9 k = μ k) → μ9 4 (LK a1 (3 * a + b)) = (CS n v33 x0).1 → K (CS n v33 x0).2 μ9) : ∃ nf, wpl_X11_sow_79 v28 v29 a1 n v33 K nf 0 x0 μ := by
  have d1 : ¬ (v33 + (1 : Int32)) = 0 := by
    intro e
    have := congrArg Int32.toInt e
    rw [show (v33 + (1 : Int32)).toInt = v33.toInt + 1 from ii_a rfl rfl (by omega) (by omega), ii_0] at this
    omega
  have d2 : ¬ n = 0 := by
    intro e
    rw [e, ii_0] at hn1
    omega
  by_cases c0 : v33 = 0
  · refine ⟨2, ?_⟩
    intro J hJ
    refine ⟨fun c => absurd c0 c, fun _ => hJ 1 ⟨fun c => absurd c (by decide), fun _ => ⟨fun c => absurd c0 c, fun _ => r_key hm h29 h28 ha hb (fun r hr er => ⟨d2, hr, ?_⟩)⟩⟩⟩
    intro J2 hJ2
    refine ⟨fun c => absurd c0 c, fun _ => hJ2 1 ⟨fun _ => ?_, fun c => absurd (by decide) c⟩⟩
    have := hK (tms μ 4 r.toNatClampNeg ((1 : Int32) <<< (md (dr x0 / (64 : Int32)) n &&& 31))) ((FQ.rf hI).st (by decide) (Or.inl (by decide))) (fun j hj => by rw [er]; simp [tms, upd, hj]) (fun k hk => by simp [tms, hk]) (by rw [er, CS, if_pos c0]; simp [tms, upd])
    rw [CS, if_pos c0] at this
    exact this
  · have L : ∀ (nf f : Nat) (t x : Int32) (μ5 : TMem), ((7 : Int) - t.toInt).toNat < nf → ((7 : Int) - t.toInt).toNat < f → FQ μ μ5 → (∀ j, j ≠ LK a1 (3 * a + b) → μ5 4 j = μ 4 j) → (∀ k, k ≠ 4 → μ5 k = μ k) → SS n v33 f t (μ5 4 (LK a1 (3 * a + b))) x = SS n v33 8 0 0 x0 → wpl_X11_sow_79 v28 v29 a1 n v33 K nf t x μ5 := by
      intro nf
      induction nf with
      | zero => intro f t x μ5 hk; exact absurd hk (Nat.not_lt_zero _)
      | succ nf ih =>
        intro f t x μ5 hk1 hf f5 m5 k5 hS
        obtain ⟨g, rfl⟩ : ∃ g, f = g + 1 := ⟨f - 1, by omega⟩
        intro J hJ
        refine ⟨fun _ => hJ n ⟨fun c => ?_, fun c => ⟨fun _ => ⟨d1, fun c2 => ?_, fun c2 => r_key hm h29 h28 ha hb (fun r hr er => ⟨hr, hr, ?_⟩)⟩, fun z => absurd z c0⟩⟩, fun z => absurd z c0⟩
        · have e : SS n v33 (g + 1) t (μ5 4 (LK a1 (3 * a + b))) x = (μ5 4 (LK a1 (3 * a + b)), x) := by rw [SS, if_pos c]
          rw [e] at hS
          have := hK μ5 f5 m5 k5 (by rw [CS, if_neg c0, ← hS])
          rw [CS, if_neg c0, ← hS] at this
          exact this
        · have c1 := nle c
          have e1 := inc_i c
          refine ih g _ (dr x) μ5 (by omega) (by omega) f5 m5 k5 ?_
          rw [← hS, SS, if_neg c, if_neg (show ¬ md (dr x / (64 : Int32)) (v33 + (1 : Int32)) = 0 from c2)]
        · have c1 := nle c
          have e1 := inc_i c
          rw [er]
          refine ih g _ (dr x) _ (by omega) (by omega) (f5.st (by decide) (Or.inl (by decide))) (fun j hj => by simp only [tms, upd, if_true, if_neg hj]; exact m5 j hj) (fun k hk => by simp only [tms, if_neg hk]; exact k5 k hk) ?_
          rw [← hS, SS, if_neg c, if_pos (show md (dr x / (64 : Int32)) (v33 + (1 : Int32)) = 0 from c2)]
          simp only [tms, upd, if_true]
    exact ⟨_, L _ 8 0 x0 μ (Nat.lt_succ_self _) (by decide) (FQ.rf hI) (fun _ _ => rfl) (fun _ _ => rfl) (by rw [hz])⟩
end SOZ
end
/-! part 9fe.sow5 -/
section
section SOV
variable {μ : TMem} {n ch : Int32} {Q : Int32 → Prop} {Qm : Int32 → TMem → Prop} {Qv : TMem → Prop}
def SR9 (n ch seed a1 : Int32) (μ μ9 : TMem) (i : Nat) : Prop := FQ μ μ9 ∧ (∀ k, k ≠ 4 → μ9 k = μ k) ∧ (∀ j, j < i → μ9 4 (LK a1 j) = CE n ch seed j) ∧ ∀ j, i ≤ j → j < 21 → μ9 4 (LK a1 j) = 0
theorem r_61 {a1 seed : Int32} {K : Int32 → TMem → Prop} (hm : M1 a1) (hn1 : 1 ≤ n.toInt) (hn7 : n.toInt ≤ 7) (hc : 0 ≤ ch.toInt ∧ ch.toInt ≤ 6) (h0 : SR9 n ch seed a1 μ μ 0) (hK : ∀ μ9 : TMem, SR9 n ch seed a1 μ μ9 (3 * n.toInt.toNat) → K (XS n ch seed (3 * n.toInt.toNat)) μ9) : ∃ nf, wpl_X11_sow_61 a1 n ch K nf 0 seed μ := by
  have L70 : ∀ (v19 : Int32) (a : Nat) (K2 : Int32 → TMem → Prop), v19.toInt = a → a ≤ 6 → (∀ μ9 : TMem, SR9 n ch seed a1 μ μ9 (3 * a + 3) → K2 (XS n ch seed (3 * a + 3)) μ9) → ∀ (nf : Nat) (v18 v20 : Int32) (b : Nat) (μ24 : TMem), 3 - b < nf → v18.toInt = b → b ≤ 3 → v20 = XS n ch seed (3 * a + b) → SR9 n ch seed a1 μ μ24 (3 * a + b) → wpl_X11_sow_70 v19 a1 n ch K2 nf v18 v20 μ24 := by
    intro v19 a K2 hv ha hK2 nf
    induction nf with
    | zero => intro v18 v20 b μ24 hk; exact absurd hk (Nat.not_lt_zero _)
    | succ nf ih =>
      intro v18 v20 b μ24 hk1 hb hb3 hx hS
      refine ⟨fun c => ?_, fun c => ?_⟩
      · rw [l_le, show (3 : Int32).toInt = 3 from rfl] at c
        have e : b = 3 := by omega
        subst e
        rw [hx]
        exact hK2 μ24 hS
      have c1 := nle c
      have e1 := inc_i c
      rw [show (3 : Int32).toInt = 3 from rfl] at c1
      obtain ⟨s1, s2, s3, s4⟩ := hS
      refine r_79 hb hv (by omega) ha hm hn1 hn7 hc s1.1 (s4 _ (Nat.le_refl _) (by omega)) (fun μ9 f9 m9 k9 x9 => ih _ _ (b + 1) μ9 (by omega) (by omega) (by omega) (by rw [hx]; rfl) ⟨s1.trans f9, fun k hk => (k9 k hk).trans (s2 k hk), fun j hj => ?_, fun j h1 h2 => ?_⟩)
      · by_cases e : j = 3 * a + b
        · rw [e, x9, hx]
          rfl
        · rw [m9 _ (by unfold LK; omega)]
          exact s3 j (by omega)
      · rw [m9 _ (by unfold LK; omega)]
        exact s4 j (by omega) h2
  have L61 : ∀ (nf : Nat) (v10 v11 : Int32) (a : Nat) (μ15 : TMem), 7 - a < nf → v10.toInt = a → (a : Int) ≤ n.toInt → v11 = XS n ch seed (3 * a) → SR9 n ch seed a1 μ μ15 (3 * a) → wpl_X11_sow_61 a1 n ch K nf v10 v11 μ15 := by
    intro nf
    induction nf with
    | zero => intro v10 v11 a μ15 hk; exact absurd hk (Nat.not_lt_zero _)
    | succ nf ih =>
      intro v10 v11 a μ15 hk1 hv han hx hS
      refine ⟨fun c => ?_, fun c => ?_⟩
      · rw [l_le] at c
        have e : a = n.toInt.toNat := by omega
        rw [hx, e]
        rw [e] at hS
        exact hK μ15 hS
      have c1 := nle c
      have e1 := inc_i c
      exact ⟨_, L70 v10 a _ hv (by omega) (fun μ9 hS9 => ih _ _ (a + 1) μ9 (by omega) (by omega) (by omega) rfl hS9) _ 0 v11 0 μ15 (Nat.lt_succ_self _) rfl (by omega) hx hS⟩
  exact ⟨_, L61 _ 0 seed 0 μ (Nat.lt_succ_self _) rfl (by omega) rfl h0⟩
theorem r_193 {a1 x0 : Int32} {K : TMem → Prop} (hm : M1 a1) (hn7 : n.toInt ≤ 7) (hI : RI μ) (hK : ∀ μ9 : TMem, FQ μ μ9 → (∀ k, k ≠ 3 → μ9 k = μ k) → K μ9) : ∃ nf, wpl_X11_sow_193 a1 n K nf 0 x0 μ := by
  have L : ∀ (nf : Nat) (v58 v59 : Int32) (μ62 : TMem), ((7 : Int) - v58.toInt).toNat < nf → FQ μ μ62 → (∀ k, k ≠ 3 → μ62 k = μ k) → wpl_X11_sow_193 a1 n K nf v58 v59 μ62 := by
    intro nf
    induction nf with
    | zero => intro v58 v59 μ62 hk; exact absurd hk (Nat.not_lt_zero _)
    | succ nf ih =>
      intro v58 v59 μ62 hk f m
      refine ⟨fun _ => hK _ f m, fun c => ?_⟩
      have c1 := nle c
      have e1 := inc_i c
      exact ⟨fun _ => ih _ _ _ (by omega) f m, fun _ => ⟨hm.in4, hm.in4, ih _ _ _ (by omega) (f.st (by decide) (Or.inl (by decide))) (fun k hk => by simp only [tms, if_neg hk]; exact m k hk)⟩⟩
  exact ⟨_, L _ 0 x0 μ (Nat.lt_succ_self _) (FQ.rf hI) (fun _ _ => rfl)⟩
theorem r_clear {a1 : Int32} (hm : M1 a1) (hI : RI μ) (hn1 : 1 ≤ n.toInt) (hn7 : n.toInt ≤ 7) (h : ∀ μ9 : TMem, FQ μ μ9 → μ9 0 = μ 0 → (∀ j, j < 21 → μ9 4 (LK a1 j) = 0) → Qv μ9) : wp_X11_clear μ a1 n Qv := by
  have f0 : FQ μ (tms (tms (tms μ 1 a1.toNatClampNeg n) 2 a1.toNatClampNeg (1 : Int32)) 3 a1.toNatClampNeg (0 : Int32)) := (((FQ.rf hI).m ⟨hn1, hn7⟩).st (by decide) (Or.inl (by decide))).st (by decide) (Or.inl (by decide))
  have L : ∀ (nf : Nat) (v5 : Int32) (i : Nat) (μ7 : TMem), 21 - i < nf → v5.toInt = i → i ≤ 21 → FQ μ μ7 → μ7 0 = μ 0 → (∀ j, j < i → μ7 4 (LK a1 j) = 0) → wpl_X11_clear_23 a1 Qv nf v5 μ7 := by
    intro nf
    induction nf with
    | zero => intro v5 i μ7 hk; exact absurd hk (Nat.not_lt_zero _)
    | succ nf ih =>
      intro v5 i μ7 hk1 hi hi21 f m z
      refine ⟨fun c => ?_, fun c => ?_⟩
      · rw [l_le, show (21 : Int32).toInt = 21 from rfl] at c
        have e : i = 21 := by omega
        subst e
        exact h μ7 f m z
      have c1 := nle c
      have e1 := inc_i c
      rw [show (21 : Int32).toInt = 21 from rfl] at c1
      have h1 := hm.1
      have h2 := hm.2
      refine t_key0 hm (fun r9 e9 g9 => ⟨g9 _ (by omega) (by omega), ?_⟩)
      have k : (r9 + v5).toInt = r9.toInt + v5.toInt := ii_a rfl rfl (by omega) (by omega)
      have kc : (r9 + v5).toNatClampNeg = LK a1 i := by rw [ii_cl, k, LK]; omega
      rw [kc]
      refine ih _ (i + 1) _ (by omega) (by omega) (by omega) (f.st (by decide) (Or.inl (by decide))) ?_ (fun j hj => ?_)
      · rw [← m]
        funext z
        simp [tms]
      · by_cases e : j = i
        · rw [e]
          simp [tms, upd]
        · have : LK a1 j ≠ LK a1 i := by unfold LK; omega
          simp only [tms, upd, if_true, if_neg this]
          exact z j (by omega)
  exact ⟨hm.in4, hm.in4, hm.in4, _, L _ 0 0 _ (Nat.lt_succ_self _) rfl (by omega) f0 (by funext z; simp [tms]) (fun j hj => absurd hj (Nat.not_lt_zero _))⟩
theorem r_arrowsOf {a1 seed : Int32} (hm : M1 a1) (hn7 : n.toInt ≤ 7) (h1 : ∀ j, j < 3 * n.toInt.toNat → μ 4 (LK a1 j) = CE n ch seed j) (h0 : ∀ j, 3 * n.toInt.toNat ≤ j → j < 21 → μ 4 (LK a1 j) = 0) (h : Q (AN n ch seed (3 * n.toInt.toNat))) : wp_X11_arrowsOf μ a1 Q := by
  have ha := hm.1
  have hb := hm.2
  have L : ∀ (nf : Nat) (v3 v4 : Int32) (i : Nat), 21 - i < nf → v3.toInt = 21 * a1.toInt + i → i ≤ 21 → v4 = AN n ch seed (min i (3 * n.toInt.toNat)) → wpl_X11_arrowsOf_9 μ a1 Q nf v3 v4 := by
    intro nf
    induction nf with
    | zero => intro v3 v4 i hk; exact absurd hk (Nat.not_lt_zero _)
    | succ nf ih =>
      intro v3 v4 i hk1 hi hi21 hv
      refine t_key0 hm (fun r6 e6 _ => ⟨fun c => ?_, fun c => ?_⟩)
      · have k : (r6 + (21 : Int32)).toInt = r6.toInt + 21 := ii_a rfl rfl (by omega) (by omega)
        rw [l_le, k] at c
        have e : min i (3 * n.toInt.toNat) = 3 * n.toInt.toNat := by omega
        rw [hv, e]
        exact h
      have k : (r6 + (21 : Int32)).toInt = r6.toInt + 21 := ii_a rfl rfl (by omega) (by omega)
      have c1 := nle c
      have e1 := inc_i c
      rw [k] at c1
      have kc : v3.toNatClampNeg = LK a1 i := by rw [ii_cl, LK]; omega
      refine ⟨in84 (by omega) (by omega), pop_w (ih _ _ (i + 1) (by omega) (by omega) (by omega) ?_)⟩
      rw [kc, hv]
      by_cases e : i < 3 * n.toInt.toNat
      · rw [h1 i e, show min i (3 * n.toInt.toNat) = i by omega, show min (i + 1) (3 * n.toInt.toNat) = i + 1 by omega]
        rfl
      · rw [h0 i (by omega) (by omega), pop_0, show min i (3 * n.toInt.toNat) = min (i + 1) (3 * n.toInt.toNat) by omega, Int32.add_zero]
  exact t_key0 hm (fun r1 e1 _ => ⟨_, L _ r1 0 0 (Nat.lt_succ_self _) (by omega) (by omega) (by rw [Nat.zero_min]; rfl)⟩)
/-- what isThrown keeps and tells -/
theorem r_thrown {a1 a2 : Int32} (h : ∀ t : Int32, t = (if a1 = 0 then 1 else if a2 = 0 then 2 else 0) → Qm (if t = 0 then 0 else 1) (tms μ 0 7 t)) : wp_X11_isThrown μ a1 a2 Qm := by
  have e : ∀ t : Int32, (tms μ 0 7 t) 0 7 = t := fun t => by simp [tms, upd]
  intro J hJ
  refine ⟨fun c1 => ⟨fun c2 => hJ _ ?_, fun c2 => hJ _ ?_⟩, fun c1 => hJ _ ?_⟩
  · rw [e]
    exact ⟨fun _ => h 0 (by rw [if_neg c1, if_neg c2]), fun z => absurd (by decide) z⟩
  · rw [e]
    exact ⟨fun z => absurd z (by decide), fun _ => h 2 (by rw [if_neg c1, if_pos c2])⟩
  · rw [e]
    exact ⟨fun z => absurd z (by decide), fun _ => h 1 (by rw [if_pos c1])⟩
end SOV
end
/-! part 9ff.sow6 -/
section
section SOU
variable {μ : TMem}
def VA (a2 a3 a4 : Int32) : Prop := (0 ≤ a2.toInt ∧ a2.toInt ≤ 65535) ∧ (1 ≤ a3.toInt ∧ a3.toInt ≤ 7) ∧ (0 ≤ a4.toInt ∧ a4.toInt ≤ 6)
theorem e_range {a lo hi : Int32} {Q : TMem → Prop} {X : String → TMem → Prop} (h : lo.toInt ≤ a.toInt ∧ a.toInt ≤ hi.toInt → Q μ) (hX : ¬ (lo.toInt ≤ a.toInt ∧ a.toInt ≤ hi.toInt) → X "java/lang/IllegalArgumentException" μ) : wp_X9_checkRange μ a lo hi Q X := by
  refine ⟨fun c => hX ?_, fun c1 => ⟨fun c => h ?_, fun c => hX ?_⟩⟩
  · rw [l_lt] at c
    omega
  · rw [l_lt] at c1
    rw [l_le] at c
    omega
  · rw [l_lt] at c1
    rw [l_le] at c
    omega
/-- the class's sow: what it answers, what it throws -/
theorem e_sow {a1 a2 a3 a4 : Int32} {Q : Int32 → TMem → Prop} {X : String → TMem → Prop} (h : M1 a1 → VA a2 a3 a4 → ∀ μ9 : TMem, Fr 3 μ μ9 → Q (AN a3 a4 a2 (3 * a3.toInt.toNat)) μ9) (h1 : ¬ M1 a1 → X "java/lang/IndexOutOfBoundsException" μ) (h2 : M1 a1 → ¬ VA a2 a3 a4 → X "java/lang/IllegalArgumentException" μ) : wp_X9_sow μ a1 a2 a3 a4 Q X := by
  refine ⟨fun c => h1 (fun m => ?_), fun c1 => ⟨fun c2 => ?_, fun c => h1 (fun m => ?_)⟩⟩
  · rw [l_lt, ii_0] at c
    have := m.1
    omega
  · rw [l_lt, ii_0] at c1
    rw [l_lt, show (4 : Int32).toInt = 4 from rfl] at c2
    have hm : M1 a1 := ⟨by omega, by omega⟩
    have hk : kd (2 + 2 * a1.toNatClampNeg) = 2 := kd_ma _ hm.cl
    refine ⟨vin (by omega), e_range (fun r2 => e_range (fun r3 => e_range (fun r4 => ?_) (fun n4 => h2 hm (fun v => n4 v.2.2))) (fun n3 => h2 hm (fun v => n3 v.2.1))) (fun n2 => h2 hm (fun v => n2 v.1))⟩
    have hv : VA a2 a3 a4 := ⟨r2, r3, r4⟩
    obtain ⟨n1, n7⟩ := hv.2.1
    have f1 : Fr 3 μ (tms μ 14 0 a2) := Fr.st Fr.rf (by rfl) (Or.inl (by decide))
    refine e_clear hk n1 n7 (fun μ7 f7 s7 m7 => ?_)
    have x7 : μ7 14 0 = a2 := by
      rw [m7 14 (fun e => (k14 hk).1 e.symm) (fun e => (k14 hk).2 e.symm)]
      simp [tms, upd]
    refine e_arrows (seed := a2) hk n1 n7 hv.2.2 ⟨Fr.rf, s7, x7, fun j hj => absurd hj (Nat.not_lt_zero _)⟩ (fun μ8 s8 => e_goals hk s8.2.1 n7 (fun μ9 f9 s9 c9 => e_count (seed := a2) (ch := a4) hk s9 n1 n7 (fun i hi => by rw [c9]; exact s8.2.2.2 i hi) ?_))
    exact h hm hv _ (Fr.st (((f1.trans f7).trans s8.1).trans f9) (by rfl) (Or.inl (by decide)))
  · have := m.2
    exact c (by rw [l_lt, show (4 : Int32).toInt = 4 from rfl]; omega)
def TH (a1 a2 a3 a4 : Int32) (t : Int32) : Prop := (M1 a1 → VA a2 a3 a4 → t = 0) ∧ (M1 a1 → ¬ VA a2 a3 a4 → t = 2) ∧ (¬ M1 a1 → t = 1)
theorem r_isIn {a lo hi : Int32} {Q : Int32 → Prop} (h : lo.toInt ≤ a.toInt ∧ a.toInt ≤ hi.toInt → Q 1) (h0 : ¬ (lo.toInt ≤ a.toInt ∧ a.toInt ≤ hi.toInt) → Q 0) : wp_X11_isIn a lo hi Q := by
  refine ⟨fun c => h0 ?_, fun c1 => ⟨fun c => h0 ?_, fun c2 => h ?_⟩⟩
  · rw [l_lt] at c
    omega
  · rw [l_lt] at c
    omega
  · rw [l_lt] at c1 c2
    omega
/-- the reference's sow: what it answers, what it keeps as thrown -/
theorem r_sow {a1 a2 a3 a4 : Int32} {Qm : Int32 → TMem → Prop} (hI : RI μ) (h : ∀ (r : Int32) (μ9 : TMem), FQ μ μ9 → TH a1 a2 a3 a4 (μ9 0 7) → (M1 a1 → VA a2 a3 a4 → r = AN a3 a4 a2 (3 * a3.toInt.toNat)) → Qm r μ9) : wp_X11_sow μ a1 a2 a3 a4 Qm := by
  have ft : ∀ t : Int32, FQ μ (tms μ 0 7 t) := fun t => (FQ.rf hI).st (by decide) (Or.inr (by decide))
  have et : ∀ t : Int32, (tms μ 0 7 t) 0 7 = t := fun t => by simp [tms, upd]
  have bad : ∀ t : Int32, ¬ t = 0 → TH a1 a2 a3 a4 t → ¬ (M1 a1 ∧ VA a2 a3 a4) → ∀ {B : Prop}, ((if t = 0 then (0 : Int32) else 1) = 0 → B) ∧ (¬ (if t = 0 then (0 : Int32) else 1) = 0 → Qm 0 (tms μ 0 7 t)) := fun t h0 hT hn B => by
    rw [if_neg h0]
    exact ⟨fun z => absurd z (by decide), fun _ => h 0 _ (ft t) (by rw [et]; exact hT) (fun m v => absurd ⟨m, v⟩ hn)⟩
  have key : ∀ r1 : Int32, (r1 = 1 ∧ M1 a1 ∨ r1 = 0 ∧ ¬ M1 a1) → wp_X11_isIn a2 (0 : Int32) (65535 : Int32) (fun (r2 : Int32) => ∀ J3 : Int32 → Prop, (∀ (j4 : Int32), (wp_X11_isThrown μ r1 j4 (fun (r6 : Int32) (μ5 : TMem) => (r6 = 0 → (wp_X11_clear μ5 a1 a3 (fun (μ8 : TMem) => ∃ n8x, wpl_X11_sow_61 a1 a3 a4 (fun (u55 : Int32) (μ56 : TMem) => ∃ n56x, wpl_X11_sow_193 a1 a3 (fun (μ68 : TMem) => wp_X11_arrowsOf μ68 a1 (fun (r71 : Int32) => wp_X11_did μ68 r71 (fun (r73 : Int32) (μ72 : TMem) => Qm r73 μ72))) n56x (0 : Int32) u55 μ56) n8x (0 : Int32) a2 μ8))) ∧ (¬ r6 = 0 → (Qm (0 : Int32) μ5)))) → J3 j4) → ((r2 = 0 → (J3 (0 : Int32))) ∧ (¬ r2 = 0 → (wp_X11_isIn a3 (1 : Int32) (7 : Int32) (fun (r75 : Int32) => (r75 = 0 → (J3 (0 : Int32))) ∧ (¬ r75 = 0 → (wp_X11_isIn a4 (0 : Int32) (6 : Int32) (fun (r77 : Int32) => (r77 = 0 → (J3 (0 : Int32))) ∧ (¬ r77 = 0 → (J3 (1 : Int32))))))))))) := by
    intro r1 hr1
    have go0 : ∀ J3 : Int32 → Prop, (∀ (j4 : Int32), (wp_X11_isThrown μ r1 j4 (fun (r6 : Int32) (μ5 : TMem) => (r6 = 0 → (wp_X11_clear μ5 a1 a3 (fun (μ8 : TMem) => ∃ n8x, wpl_X11_sow_61 a1 a3 a4 (fun (u55 : Int32) (μ56 : TMem) => ∃ n56x, wpl_X11_sow_193 a1 a3 (fun (μ68 : TMem) => wp_X11_arrowsOf μ68 a1 (fun (r71 : Int32) => wp_X11_did μ68 r71 (fun (r73 : Int32) (μ72 : TMem) => Qm r73 μ72))) n56x (0 : Int32) u55 μ56) n8x (0 : Int32) a2 μ8))) ∧ (¬ r6 = 0 → (Qm (0 : Int32) μ5)))) → J3 j4) → ¬ VA a2 a3 a4 → J3 0 := by
      intro J3 hJ hn
      refine hJ 0 (r_thrown (fun t ht => ?_))
      rcases hr1 with ⟨e, m⟩ | ⟨e, m⟩
      · rw [e, if_neg (by decide), if_pos rfl] at ht
        exact bad t (by rw [ht]; decide) ⟨fun _ v => absurd v hn, fun _ _ => ht, fun z => absurd m z⟩ (fun z => hn z.2)
      · rw [e, if_pos rfl] at ht
        exact bad t (by rw [ht]; decide) ⟨fun z => absurd z m, fun z => absurd z m, fun _ => ht⟩ (fun z => m z.1)
    have go1 : ∀ J3 : Int32 → Prop, (∀ (j4 : Int32), (wp_X11_isThrown μ r1 j4 (fun (r6 : Int32) (μ5 : TMem) => (r6 = 0 → (wp_X11_clear μ5 a1 a3 (fun (μ8 : TMem) => ∃ n8x, wpl_X11_sow_61 a1 a3 a4 (fun (u55 : Int32) (μ56 : TMem) => ∃ n56x, wpl_X11_sow_193 a1 a3 (fun (μ68 : TMem) => wp_X11_arrowsOf μ68 a1 (fun (r71 : Int32) => wp_X11_did μ68 r71 (fun (r73 : Int32) (μ72 : TMem) => Qm r73 μ72))) n56x (0 : Int32) u55 μ56) n8x (0 : Int32) a2 μ8))) ∧ (¬ r6 = 0 → (Qm (0 : Int32) μ5)))) → J3 j4) → VA a2 a3 a4 → J3 1 := by
      intro J3 hJ hv
      refine hJ 1 (r_thrown (fun t ht => ?_))
      rcases hr1 with ⟨e, hm⟩ | ⟨e, m⟩
      · rw [e, if_neg (by decide), if_neg (by decide)] at ht
        rw [ht, if_pos rfl]
        refine ⟨fun _ => ?_, fun z => absurd rfl z⟩
        obtain ⟨n1, n7⟩ := hv.2.1
        refine r_clear hm (ft 0).1 n1 n7 (fun μ8 f8 z8 c8 => r_61 (seed := a2) hm n1 n7 hv.2.2 ⟨FQ.rf f8.1, fun _ _ => rfl, fun j hj => absurd hj (Nat.not_lt_zero _), fun j _ hj => c8 j hj⟩ (fun μ9 s9 => r_193 hm n7 s9.1.1 (fun μa fa ma => r_arrowsOf (ch := a4) (seed := a2) hm n7 (fun j hj => by rw [ma 4 (by decide)]; exact s9.2.2.1 j hj) (fun j h1 h2 => by rw [ma 4 (by decide)]; exact s9.2.2.2 j h1 h2) ?_)))
        have ff : FQ μ (tms μa 0 4 ((μa 0 4) + 1)) := ((((ft 0).trans f8).trans s9.1).trans fa).st (by decide) (Or.inr (by decide))
        refine h _ _ ff ?_ (fun _ _ => rfl)
        have e7 : (tms μa 0 4 ((μa 0 4) + 1)) 0 7 = 0 := by
          have : (tms μa 0 4 ((μa 0 4) + 1)) 0 7 = μa 0 7 := by simp [tms, upd]
          rw [this, ma 0 (by decide), s9.2.1 0 (by decide), z8]
          exact et 0
        rw [e7]
        exact ⟨fun _ _ => rfl, fun _ z => absurd hv z, fun z => absurd hm z⟩
      · rw [e, if_pos rfl] at ht
        exact bad t (by rw [ht]; decide) ⟨fun z => absurd z m, fun z => absurd z m, fun _ => ht⟩ (fun z => m z.1)
    refine r_isIn (fun i2 => ?_) (fun n2 => ?_)
    · intro J3 hJ
      refine ⟨fun z => absurd z (by decide), fun _ => r_isIn (fun i3 => ⟨fun z => absurd z (by decide), fun _ => r_isIn (fun i4 => ⟨fun z => absurd z (by decide), fun _ => go1 J3 hJ ⟨i2, i3, i4⟩⟩) (fun n4 => ⟨fun _ => go0 J3 hJ (fun v => n4 v.2.2), fun z => absurd rfl z⟩)⟩) (fun n3 => ⟨fun _ => go0 J3 hJ (fun v => n3 v.2.1), fun z => absurd rfl z⟩)⟩
    · intro J3 hJ
      exact ⟨fun _ => go0 J3 hJ (fun v => n2 v.1), fun z => absurd rfl z⟩
  have one : ∀ Q : Int32 → Prop, (M1 a1 → Q 1) → (¬ M1 a1 → Q 0) → wp_X11_isOne a1 Q := fun Q h1 h0 => r_isIn (fun z => ⟨Or.inr rfl, h1 z⟩) (fun z => ⟨Or.inl rfl, h0 z⟩)
  exact one _ (fun i1 => key 1 (Or.inl ⟨rfl, i1⟩)) (fun n1 => key 0 (Or.inr ⟨rfl, n1⟩))
end SOU
end
/-! part 9fg.far -/
section
section FAR
variable {Q : Int32 → Prop} {Qm : Int32 → TMem → Prop} {Qv : TMem → Prop} {μ : TMem}
/-- the reference's words are as they were, but for what was thrown -/
def FA (μ μ9 : TMem) : Prop := RI μ9 ∧ ∀ k i, k ≠ 0 ∨ i ≠ 7 → μ9 k i = μ k i
theorem FA.rf {μ : TMem} (h : RI μ) : FA μ μ := ⟨h, fun _ _ _ => rfl⟩
theorem FA.trans {a b c : TMem} (h1 : FA a b) (h2 : FA b c) : FA a c := ⟨h2.1, fun k i h => (h2.2 k i h).trans (h1.2 k i h)⟩
theorem FA.st {a b : TMem} {v : Int32} (h : FA a b) (_ : (0 : Nat) ≠ 1) (_ : (0 : Nat) ≠ 0 ∨ (7 : Nat) ≠ 6) : FA a (tms b 0 7 v) := by
  refine ⟨fun j hj => by simpa [tms] using h.1 j hj, fun k i hk => ?_⟩
  rw [← h.2 k i hk]
  by_cases e : k = 0
  · subst e
    have h7 : i ≠ 7 := hk.elim (fun w => absurd rfl w) id
    simp [tms, upd, h7]
  · simp [tms, e]
theorem FA.fq {a b : TMem} (h : FA a b) : FQ a b := ⟨h.1, h.2 0 6 (Or.inr (by decide))⟩
theorem ta_isThrown {a1 a2 : Int32} (hI : RI μ) (h : ∀ (r : Int32) (μ9 : TMem), isB r → FA μ μ9 → (r = 0 → a1 ≠ 0 ∧ a2 ≠ 0) → Qm r μ9) : wp_X11_isThrown μ a1 a2 Qm := by
  have hf : ∀ j, FA μ (tms μ 0 7 j) := fun j => (FA.rf hI).st (by decide) (Or.inr (by decide))
  have bad : ∀ j : Int32, ¬ j ≤ 0 → (((tms μ 0 7 j) 0 7) ≤ 0 → Qm (0 : Int32) (tms μ 0 7 j)) ∧ (¬ ((tms μ 0 7 j) 0 7) ≤ 0 → Qm (1 : Int32) (tms μ 0 7 j)) := fun j hj => by
    rw [show (tms μ 0 7 j) 0 7 = j by simp [tms, upd]]
    exact ⟨fun z => absurd z hj, fun _ => h _ _ (Or.inr rfl) (hf j) (fun z => absurd z (by decide))⟩
  intro J hJ
  refine ⟨fun c1 => ⟨fun c2 => hJ _ ?_, fun _ => hJ _ (bad _ (by decide))⟩, fun _ => hJ _ (bad _ (by decide))⟩
  rw [show (tms μ 0 7 (0 : Int32)) 0 7 = 0 by simp [tms, upd]]
  exact ⟨fun _ => h _ _ (Or.inl rfl) (hf _) (fun _ => ⟨c1, c2⟩), fun z => absurd (by decide) z⟩
theorem ta_isCrowded {na1 : Nat} {fa1 : Nat → Int32} {a2 : Int32} (hI : RI μ) (h : ∀ μ9 : TMem, FA μ μ9 → Qm 0 μ9) : wp_X11_isCrowded μ na1 fa1 a2 Qm := h _ ((FA.rf hI).st (by decide) (Or.inr (by decide)))
theorem ta_isCrowded_n {a2 : Int32} (hI : RI μ) (h : ∀ μ9 : TMem, FA μ μ9 → Qm 1 μ9) : wp_X11_isCrowded_n μ a2 Qm := h _ ((FA.rf hI).st (by decide) (Or.inr (by decide)))
theorem ta_thr {a1 a2 : Int32} {B : TMem → Prop} (hI : RI μ) (hq : ∀ μ9, FA μ μ9 → Qm 0 μ9) (hb : ∀ μ3, FA μ μ3 → a1 ≠ 0 → a2 ≠ 0 → B μ3) : wp_X11_isThrown μ a1 a2 (fun r μ3 => (r = 0 → B μ3) ∧ (¬ r = 0 → Qm 0 μ3)) :=
  ta_isThrown hI (fun r μ3 b f h0 => ⟨fun c => hb μ3 f (h0 c).1 (h0 c).2, fun _ => hq _ f⟩)
theorem ta_tell {a1 a2 : Int32} (hI : RI μ) (h : ∀ (r : Int32) (μ9 : TMem), FA μ μ9 → Qm r μ9) : wp_X11_tell μ a1 a2 Qm := by
  refine t_isOne (fun r1 b1 h1 => t_isIn (fun r2 b2 h2 => ta_thr hI (h 0) (fun μ3 f3 c1 c2 => ?_)))
  have hm := h1 c1
  exact ⟨fun _ => ⟨fun _ => ⟨fun _ => ⟨fun _ => t_isPlain hm f3.1 (fun r _ => ⟨fun _ => h _ _ f3, fun _ => h _ _ f3⟩), fun _ => ⟨hm.in4, h _ _ f3⟩⟩, fun _ => ⟨hm.in4, h _ _ f3⟩⟩, fun _ => t_arrowsOf hm (fun r => h _ _ f3)⟩, fun _ => ⟨hm.in4, h _ _ f3⟩⟩
theorem ta_arrows {a1 a2 a3 : Int32} (hI : RI μ) (h : ∀ (r : Int32) (μ9 : TMem), FA μ μ9 → Qm r μ9) : wp_X11_arrows μ a1 a2 a3 Qm := by
  refine t_ost hI (fun j hj => t_isIn (fun r4 b4 h4 => ta_thr hI (h 0) (fun μ5 f5 c1 c2 => ?_)))
  obtain ⟨hm, hs⟩ := hj c1
  exact t_keyv hm hs (h4 c2) (fun r hr => ⟨hr, h _ _ f5⟩)
theorem ta_takes {a1 a2 a3 : Int32} (hI : RI μ) (h : ∀ (r : Int32) (μ9 : TMem), FA μ μ9 → Qm r μ9) : wp_X11_takes μ a1 a2 a3 Qm := by
  refine t_isOne (fun r1 b1 h1 => t_isWord (fun r2 h2 => ta_isThrown hI (fun r4 μ3 b4 f3 h4 => ⟨fun _ => h _ _ f3, fun c => ?_⟩)))
  have hm := h1 (h4 c).1
  exact t_setAfter hm f3.1 (h2 (h4 c).2).2 (fun r8 => ⟨hm.in4, fun _ => h _ _ f3, fun _ => h _ _ f3⟩)
theorem ta_after {a1 a2 a3 a4 : Int32} (hI : RI μ) (h : ∀ (r : Int32) (μ9 : TMem), FA μ μ9 → Qm r μ9) : wp_X11_after μ a1 a2 a3 a4 Qm := by
  refine t_isOne (fun r1 b1 h1 => t_isWord (fun r2 h2 => ?_))
  intro J hJ
  have key : ∀ j : Int32, (j ≠ 0 → r2 ≠ 0) → J j := by
    intro j hj
    refine hJ j (ta_thr hI (h 0) (fun μ5 f5 c1 c2 => ?_))
    have hm := h1 c1
    have h3 := (h2 (hj c2)).2
    refine ⟨fun _ => ?_, fun _ => t_setAfter hm f5.1 h3 (fun r => h _ _ f5)⟩
    intro J9 hJ9
    have key9 : ∀ j, J9 j := by
      intro j
      refine hJ9 j (t_fnd hm f5.1 (fun r hr => ⟨fun _ => ta_isCrowded_n f5.1 (fun μ9 f9 => ⟨fun z => absurd z (by decide), fun _ => h _ _ (f5.trans f9)⟩), fun n f e => ?_⟩))
      obtain ⟨S, hS1, hS, rfl, hf, _⟩ := (hr n f e).get
      refine ta_isCrowded f5.1 (fun μ9 f9 => ⟨fun _ => ?_, fun z => absurd rfl z⟩)
      have L : ∀ (n : Nat) (v30 v31 v32 : Int32), (a2.toInt - v30.toInt).toNat < n → 0 ≤ v31.toInt → 0 ≤ v32.toInt → v32.toInt < S → wpl_X11_after_88_28 μ9 f (4 * S) a2 Qm n v30 v31 v32 := by
        intro n
        induction n with
        | zero => intro v30 v31 v32 hk; exact absurd hk (Nat.not_lt_zero _)
        | succ n ih =>
          intro v30 v31 v32 hk h31 g1 g2
          refine ⟨fun _ => h _ _ (f5.trans f9), fun c => ?_⟩
          have c1 := nle c
          have e1 := inc_i c
          obtain ⟨m1, m2⟩ := mod3 h31
          obtain ⟨k1, k2, k3⟩ := fourk g1 g2 hS m1.1 (by omega)
          refine ⟨k3, ?_⟩
          have k4 := hf v32.toInt.toNat (v31 - v31 / (3 : Int32) * (3 : Int32)).toInt.toNat (by omega) (by omega)
          rw [k2]
          exact ih _ _ _ (by omega) m2 k4.1 k4.2
      exact ⟨_, L _ 0 a3 0 (Nat.lt_succ_self _) h3 (by decide) (by rw [ii_0]; omega)⟩
    exact ⟨fun _ => key9 _, fun _ => key9 _⟩
  exact ⟨fun _ => key 0 (fun z => absurd rfl z), fun c => t_isIn (fun r b h5 => ⟨fun _ => key 0 (fun z => absurd rfl z), fun _ => key 1 (fun _ => c)⟩)⟩
theorem ta_size {a1 a2 : Int32} (hI : RI μ) (h : ∀ (r : Int32) (μ9 : TMem), FA μ μ9 → Qm r μ9) : wp_X11_size μ a1 a2 Qm := by
  refine t_isOne (fun r1 b1 h1 => t_isIn (fun r2 b2 h2 => ta_thr hI (h 0) (fun μ3 f3 c1 c2 => ?_)))
  exact t_fnd (h1 c1) f3.1 (fun r hr => ⟨fun _ => ta_isCrowded_n f3.1 (fun μ9 f9 => ⟨fun z => absurd z (by decide), fun _ => h _ _ (f3.trans f9)⟩), fun n f e => ta_isCrowded f3.1 (fun μ9 f9 => ⟨fun _ => h _ _ (f3.trans f9), fun _ => h _ _ (f3.trans f9)⟩)⟩)
theorem ta_kind {a1 : Int32} (hI : RI μ) (h : ∀ (r : Int32) (μ9 : TMem), FA μ μ9 → Qm r μ9) : wp_X11_kind μ a1 Qm := by
  refine t_isOne (fun r1 b1 h1 => ta_thr hI (h 0) (fun μ3 f3 c1 c2 => ?_))
  refine t_fnd (h1 c1) f3.1 (fun r hr => ⟨fun _ => ta_isCrowded_n f3.1 (fun μ9 f9 => ⟨fun z => absurd z (by decide), fun _ => h _ _ (f3.trans f9)⟩), fun n f e => ta_isCrowded f3.1 (fun μ9 f9 => ⟨fun _ => ?_, fun _ => h _ _ (f3.trans f9)⟩)⟩)
  obtain ⟨S, hS1, hS, rfl, hf, _⟩ := (hr n f e).get
  obtain ⟨q1, q2, q3, q4⟩ := quart hS
  have L : ∀ (n : Nat) (v18 : Int32), ((2 : Int) * S - v18.toInt).toNat < n → wpl_X11_kind_49 μ9 f (4 * S) ((nI (4 * S)) / (4 : Int32)) Qm n v18 := by
    intro n
    induction n with
    | zero => intro v18 hk; exact absurd hk (Nat.not_lt_zero _)
    | succ n ih =>
      intro v18 hk
      refine ⟨fun _ => h _ _ (f3.trans f9), fun c => ?_⟩
      have c1 := nle c
      have e1 := inc_i c
      have e2 : ((2 : Int32) * ((nI (4 * S)) / (4 : Int32))).toInt = 2 * (S : Int) := ii_m rfl q1 (by omega) (by omega)
      rw [e2] at c1
      exact t_isReached hS (fun r21 => ⟨fun _ => ih _ (by omega), fun _ => h _ _ (f3.trans f9)⟩)
  exact ⟨fun _ => ⟨_, L _ _ (Nat.lt_succ_self _)⟩, fun _ => ⟨vin (by rw [show (3 : Int32).toInt = 3 from rfl]; omega), h _ _ (f3.trans f9)⟩⟩
theorem ta_many {a1 a2 a3 : Int32} (hI : RI μ) (h : ∀ (r : Int32) (μ9 : TMem), FA μ μ9 → Qm r μ9) : wp_X11_many μ a1 a2 a3 Qm := by
  refine t_isOne (fun r1 b1 h1 => t_isIn (fun r2 b2 h2 => ?_))
  intro J hJ
  have key : ∀ j : Int32, (j ≠ 0 → r2 ≠ 0) → J j := by
    intro j hj
    refine hJ j (ta_thr hI (h 0) (fun μ5 f5 c1 c2 => ?_))
    have hm := h1 c1
    have hl := h2 (hj c2)
    rw [ii_0, show (12 : Int32).toInt = 12 from rfl] at hl
    refine ⟨fun _ => ?_, fun _ => t_fnd hm f5.1 (fun r hr => ⟨fun _ => ta_isCrowded_n f5.1 (fun μ9 f9 => ⟨fun z => absurd z (by decide), fun _ => h _ _ (f5.trans f9)⟩), fun n f e => ta_isCrowded f5.1 (fun μ9 f9 => ⟨fun _ => ?_, fun _ => h _ _ (f5.trans f9)⟩)⟩)⟩
    · obtain ⟨r, hr⟩ := t_power a2
      have L : ∀ (n : Nat) (v10 v11 : Int32), (r.toInt - v10.toInt).toNat < n → 0 ≤ v10.toInt → wpl_X11_many_94 μ5 a1 a2 Qm n v10 v11 := by
        intro n
        induction n with
        | zero => intro v10 v11 hk; exact absurd hk (Nat.not_lt_zero _)
        | succ n ih =>
          intro v10 v11 hk h0
          refine hr _ ⟨fun _ => h _ _ f5, fun c => ?_⟩
          have c1 := nle c
          have e1 := inc_i c
          exact t_setAfter hm f5.1 h0 (fun r18 => ⟨hm.in4, fun _ => ih _ _ (by omega) (by omega), fun _ => ih _ _ (by omega) (by omega)⟩)
      exact ⟨_, L _ 0 0 (Nat.lt_succ_self _) (by decide)⟩
    · have ho := hr n f e
      obtain ⟨S, _, _, rfl, _, _⟩ := ho.get
      exact t_ways ho hl (fun r => h _ _ (f5.trans f9))
  have no : J 0 := key 0 (fun z => absurd rfl z)
  exact ⟨fun _ => no, fun c => t_isIn (fun r b h5 => ⟨fun _ => no, fun _ => ⟨fun _ => key 1 (fun _ => c), fun _ => ⟨fun _ => no, fun _ => key 1 (fun _ => c)⟩⟩⟩)⟩
theorem ta_isCrowded' {na1 : Nat} {fa1 : Nat → Int32} {a2 : Int32} (hI : RI μ) (h : ∀ μ9 : TMem, FA μ μ9 → (∀ k : Nat, 1 ≤ k → μ9 k = μ k) → Qm 0 μ9) : wp_X11_isCrowded μ na1 fa1 a2 Qm := h _ ((FA.rf hI).st (by decide) (Or.inr (by decide))) (fun k hk => by
  have : k ≠ 0 := by omega
  simp [tms, this])
theorem ta_pairs {a1 a2 : Int32} (hI : RI μ) (h : ∀ (r : Int32) (μ9 : TMem), FA μ μ9 → Qm r μ9) : wp_X11_pairs μ a1 a2 Qm := by
  refine t_two (fun j hj => ta_thr hI (h 0) (fun μ4 f4 c1 c2 => ?_))
  obtain ⟨m1, m2⟩ := hj c1
  refine t_pairsOf m1 m2 f4.1 ?_ (fun f _ hf => ?_)
  · exact ⟨fun _ => ta_isCrowded_n f4.1 (fun μ9 f9 => ⟨fun z => absurd z (by decide), fun _ => h _ _ (f4.trans f9)⟩), fun n f e => by cases e⟩
  · refine ⟨fun e => (by cases e), fun n f e => ?_⟩
    cases e
    exact ta_isCrowded f4.1 (fun μ9 f9 => ⟨fun _ => ⟨vin (by rw [ii_0]; omega), h _ _ (f4.trans f9)⟩, fun _ => h _ _ (f4.trans f9)⟩)
theorem ta_isAlike {a1 a2 a3 : Int32} (hI : RI μ) (h : ∀ (r : Int32) (μ9 : TMem), FA μ μ9 → Qm r μ9) : wp_X11_isAlike μ a1 a2 a3 Qm := by
  refine t_two (fun j hj => t_isIn (fun r4 b4 h4 => ta_thr hI (h 0) (fun μ5 f5 c1 c2 => ?_)))
  obtain ⟨m1, m2⟩ := hj c1
  have q : ∀ (r : Int32) (μ9 : TMem), FA μ5 μ9 → Qm r μ9 := fun r μ9 f9 => h _ _ (f5.trans f9)
  refine ⟨fun _ => t_fnd m1 f5.1 (fun r hr => ⟨fun _ => t_fnd m2 f5.1 (fun r' hr' => ⟨fun _ => ta_isCrowded_n f5.1 (fun μ6 f6 => ⟨fun _ => q _ _ f6, fun z => absurd z (by decide)⟩), fun n f e => ta_isCrowded_n f5.1 (fun μ6 f6 => ⟨fun _ => q _ _ f6, fun z => absurd z (by decide)⟩)⟩), fun n f e => t_fnd m2 f5.1 (fun r' hr' => ⟨fun _ => ta_isCrowded f5.1 (fun μ6 f6 => ⟨fun _ => q _ _ f6, fun _ => ta_isCrowded_n f6.1 (fun μ7 f7 => ⟨fun z => absurd z (by decide), fun _ => q _ _ (f6.trans f7)⟩)⟩), fun n' f' e' => ta_isCrowded f5.1 (fun μ6 f6 => ⟨fun _ => q _ _ f6, fun _ => ta_isCrowded f6.1 (fun μ7 f7 => ⟨fun _ => ?_, fun _ => q _ _ (f6.trans f7)⟩)⟩)⟩)⟩), fun _ => ?_⟩
  · obtain ⟨S1, g11, g1, rfl, _, _⟩ := (hr n f e).get
    obtain ⟨S2, g12, g2, rfl, _, _⟩ := (hr' n' f' e').get
    have q3 := (quart g1).2.2.1
    have q4 := (quart g2).2.2.1
    have L : ∀ (n : Nat) (v52 v53 : Int32), ((4 * (S1 : Int)) - v52.toInt).toNat < n → 0 ≤ v52.toInt → (v53 = 0 ∨ (v53 = 1 ∧ S1 = S2)) → wpl_X11_isAlike_130 μ7 f (4 * S1) f' (4 * S2) Qm n v52 v53 := by
      intro n
      induction n with
      | zero => intro v52 v53 hk; exact absurd hk (Nat.not_lt_zero _)
      | succ n ih =>
        intro v52 v53 hk h0 hb
        have hb' : isB v53 := hb.imp id And.left
        refine ⟨fun _ => ⟨hb', q _ _ (f6.trans f7)⟩, fun c0 => ⟨fun _ => ⟨hb', q _ _ (f6.trans f7)⟩, fun c => ?_⟩⟩
        have c1 := nle c
        have e1 := inc_i c
        rw [q3] at c1
        have e2 := (hb.resolve_left c0).2
        exact ⟨vin (by omega), vin (by omega), fun _ => ih _ _ (by omega) (by omega) (Or.inl rfl), fun _ => ih _ _ (by omega) (by omega) (Or.inr ⟨rfl, e2⟩)⟩
    intro J hJ
    refine ⟨fun _ => hJ _ ⟨_, L _ 0 0 (Nat.lt_succ_self _) (by decide) (Or.inl rfl)⟩, fun c => hJ _ ⟨_, L _ 0 1 (Nat.lt_succ_self _) (by decide) (Or.inr ⟨rfl, ?_⟩)⟩⟩
    have := congrArg Int32.toInt c
    rw [q3, q4] at this
    omega
  · refine t_pairsOf m1 m2 f5.1 ?_ (fun f _ hf => ?_)
    · exact ⟨fun _ => ta_isCrowded_n f5.1 (fun μ9 f9 => ⟨fun _ => q _ _ f9, fun z => absurd z (by decide)⟩), fun n f e => by cases e⟩
    refine ⟨fun e => (by cases e), fun n f' e => ?_⟩
    cases e
    exact ta_isCrowded' f5.1 (fun μ9 f9 e9 => ⟨fun _ => q _ _ f9, fun _ => hf μ9 e9 _ (fun r _ => ⟨fun _ => q _ _ f9, fun _ => q _ _ f9⟩)⟩)
theorem ta_together {a1 a2 a3 a4 : Int32} (hI : RI μ) (h : ∀ (r : Int32) (μ9 : TMem), FA μ μ9 → Qm r μ9) : wp_X11_together μ a1 a2 a3 a4 Qm := by
  refine t_two (fun j hj => t_isIn (fun r4 b4 h4 => ?_))
  intro J hJ
  have key : ∀ i : Int32, (i ≠ 0 → -1 ≤ a4.toInt ∧ a4.toInt ≤ 12) → J i := by
    intro i hi
    refine hJ i (ta_thr hI (h 0) (fun μ5 f5 c1 c2 => ?_))
    obtain ⟨m1, m2⟩ := hj c1
    have hl := hi c2
    have q : ∀ (r : Int32) (μ9 : TMem), FA μ5 μ9 → Qm r μ9 := fun r μ9 f9 => h _ _ (f5.trans f9)
    refine t_both m1 m2 f5.1 (fun r hr => ⟨fun _ => ⟨fun _ => ta_isCrowded_n f5.1 (fun μ6 f6 => ⟨fun z => absurd z (by decide), fun _ => q _ _ f6⟩), fun n f e => by cases e⟩, fun n f e => (lst n f (hr n f e)).use (fun r' hr' => ⟨fun _ => ta_isCrowded_n f5.1 (fun μ6 f6 => ⟨fun z => absurd z (by decide), fun _ => q _ _ f6⟩), fun n' f' e' => ta_isCrowded f5.1 (fun μ6 f6 => ⟨fun _ => ⟨fun c => ?_, fun _ => q _ _ f6⟩, fun _ => q _ _ f6⟩)⟩)⟩)
    have ho := hr' n' f' e'
    obtain ⟨S, _, _, rfl, _, _⟩ := ho.get
    have c9 : a4.toInt ≠ -1 := fun e => c (l_eq.mpr (by rw [e]; rfl))
    exact t_ways ho (by omega) (fun r => q _ _ f6)
  have no : J 0 := key 0 (fun z => absurd rfl z)
  exact ⟨fun _ => no, fun c => t_isIn (fun r5 b5 h5 => ⟨fun _ => no, fun c5 => key 1 (fun _ => h5 c5)⟩)⟩
theorem ta_house {a1 : Int32} (hI : RI μ) (h : ∀ (r : Int32) (μ9 : TMem), FA μ μ9 → Qm r μ9) : wp_X11_house μ a1 Qm := by
  exact t_isIn (fun r1 b1 h1 => ta_thr hI (h 0) (fun μ2 f2 c1 c2 => ⟨fun _ => ⟨fun _ => h _ _ f2, fun _ => h _ _ f2⟩, fun _ => h _ _ f2⟩))
theorem ta_isSound (hI : RI μ) (h : ∀ μ9 : TMem, FA μ μ9 → Qm 1 μ9) : wp_X11_isSound μ Qm := h _ ((FA.rf hI).st (by decide) (Or.inr (by decide)))
theorem ta_digest {Qd : Int64 → TMem → Prop} (hI : RI μ) (h : ∀ (r : Int64) (μ9 : TMem), FA μ μ9 → Qd r μ9) : wp_X11_digest μ Qd := by
  have L14 : ∀ (v8 : Int32) (K : Int64 → TMem → Prop), (∀ u μ9, FA μ μ9 → K u μ9) → ∀ (n : Nat) (v7 : Int32) (v9 : Int64) (μ10 : TMem), ((5 : Int) - v7.toInt).toNat < n → FA μ μ10 → wpl_X11_digest_14 v8 K n v7 v9 μ10 := by
    intro v8 K hK n
    induction n with
    | zero => intro v7 v9 μ10 hk; exact absurd hk (Nat.not_lt_zero _)
    | succ n ih =>
      intro v7 v9 μ10 hk f
      refine ⟨fun _ => hK _ _ f, fun c => ?_⟩
      have c1 := nle c
      have e1 := inc_i c
      rw [show (5 : Int32).toInt = 5 from rfl] at c1
      exact ta_tell f.1 (fun r μ9 f9 => ih _ _ _ (by omega) (f.trans f9))
  have L44 : ∀ (μ16 : TMem) (v19 : Int32) (K : Int64 → Prop), M1 v19 → RI μ16 → (∀ u, K u) → ∀ (n : Nat) (v18 : Int32) (v20 : Int64), ((21 : Int) - v18.toInt).toNat < n → 0 ≤ v18.toInt → wpl_X11_digest_44 μ16 v19 K n v18 v20 := by
    intro μ16 v19 K hm hI6 hK n
    induction n with
    | zero => intro v18 v20 hk; exact absurd hk (Nat.not_lt_zero _)
    | succ n ih =>
      intro v18 v20 hk h0
      refine ⟨hm.in4, fun _ => hK _, fun c => ?_⟩
      have c1 := nle c
      have e1 := inc_i c
      have r7 := hm.ri hI6
      have k : ((μ16 1 v19.toNatClampNeg) * (3 : Int32)).toInt = (μ16 1 v19.toNatClampNeg).toInt * 3 := ii_m rfl rfl (by omega) (by omega)
      rw [k] at c1
      exact t_key0 hm (fun r23 _ g23 => ⟨g23 _ h0 (by omega), ih _ _ (by omega) (by omega)⟩)
  have L6 : ∀ (K : Int64 → TMem → Prop), (∀ u μ9, FA μ μ9 → K u μ9) → ∀ (n : Nat) (v2 : Int32) (v3 : Int64) (μ4 : TMem), ((4 : Int) - v2.toInt).toNat < n → 0 ≤ v2.toInt → FA μ μ4 → wpl_X11_digest_6 K n v2 v3 μ4 := by
    intro K hK n
    induction n with
    | zero => intro v2 v3 μ4 hk; exact absurd hk (Nat.not_lt_zero _)
    | succ n ih =>
      intro v2 v3 μ4 hk h0 f
      refine ⟨fun _ => hK _ _ f, fun c => ?_⟩
      have c1 := nle c
      have e1 := inc_i c
      rw [show (4 : Int32).toInt = 4 from rfl] at c1
      exact ⟨_, L14 v2 _ (fun u μ9 f9 => ⟨_, L44 μ9 v2 _ ⟨h0, by omega⟩ f9.1 (fun u' => ih _ _ _ (by omega) (by omega) f9) _ 0 u (Nat.lt_succ_self _) (by decide)⟩) _ 0 v3 μ4 (Nat.lt_succ_self _) f⟩
  exact ⟨_, L6 _ (fun u μ9 f9 => h _ _ (f9.st (by decide) (Or.inr (by decide)))) _ 0 _ μ (Nat.lt_succ_self _) (by decide) (FA.rf hI)⟩
end FAR
end
