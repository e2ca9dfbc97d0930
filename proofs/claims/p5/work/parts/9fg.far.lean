section FAR
variable {Q : Int32 → Prop} {Qm : Int32 → TMem → Prop} {Qv : TMem → Prop} {μ : TMem}
/-- the reference's words are as they were, but for what was thrown -/
def FA (μ μ9 : TMem) : Prop := RI μ9 ∧ ∀ k i, k ≠ 0 ∨ i ≠ 7 → μ9 k i = μ k i
theorem FA.rf {μ : TMem} (h : RI μ) : FA μ μ := ⟨h, fun _ _ _ => rfl⟩
theorem FA.trans {a b c : TMem} (h1 : FA a b) (h2 : FA b c) : FA a c := ⟨h2.1, fun k i h => (h2.2 k i h).trans (h1.2 k i h)⟩
theorem FA.st {a b : TMem} {v : Int32} (h : FA a b) (_ : (0 : Nat) ≠ 1) (_ : (0 : Nat) ≠ 0 ∨ (7 : Nat) ≠ 6) : FA a (tms b 0 7 v) := by
  refine ⟨fun j hj => by simpa [tms] using h.1 j hj, fun k i hk => ?_⟩
  rw [← h.2 k i hk]
  by_cases e : k = 0
  · subst e
    have h7 : i ≠ 7 := hk.elim (fun w => absurd rfl w) id
    simp [tms, upd, h7]
  · simp [tms, e]
theorem FA.fq {a b : TMem} (h : FA a b) : FQ a b := ⟨h.1, h.2 0 6 (Or.inr (by decide))⟩
theorem ta_isThrown {a1 a2 : Int32} (hI : RI μ) (h : ∀ (r : Int32) (μ9 : TMem), isB r → FA μ μ9 → (r = 0 → a1 ≠ 0 ∧ a2 ≠ 0) → Qm r μ9) : wp_X11_isThrown μ a1 a2 Qm := by
  have hf : ∀ j, FA μ (tms μ 0 7 j) := fun j => (FA.rf hI).st (by decide) (Or.inr (by decide))
  have bad : ∀ j : Int32, ¬ j ≤ 0 → (((tms μ 0 7 j) 0 7) ≤ 0 → Qm (0 : Int32) (tms μ 0 7 j)) ∧ (¬ ((tms μ 0 7 j) 0 7) ≤ 0 → Qm (1 : Int32) (tms μ 0 7 j)) := fun j hj => by
    rw [show (tms μ 0 7 j) 0 7 = j by simp [tms, upd]]
    exact ⟨fun z => absurd z hj, fun _ => h _ _ (Or.inr rfl) (hf j) (fun z => absurd z (by decide))⟩
  intro J hJ
  refine ⟨fun c1 => ⟨fun c2 => hJ _ ?_, fun _ => hJ _ (bad _ (by decide))⟩, fun _ => hJ _ (bad _ (by decide))⟩
  rw [show (tms μ 0 7 (0 : Int32)) 0 7 = 0 by simp [tms, upd]]
  exact ⟨fun _ => h _ _ (Or.inl rfl) (hf _) (fun _ => ⟨c1, c2⟩), fun z => absurd (by decide) z⟩
theorem ta_isCrowded {na1 : Nat} {fa1 : Nat → Int32} {a2 : Int32} (hI : RI μ) (h : ∀ μ9 : TMem, FA μ μ9 → Qm 0 μ9) : wp_X11_isCrowded μ na1 fa1 a2 Qm := h _ ((FA.rf hI).st (by decide) (Or.inr (by decide)))
theorem ta_isCrowded_n {a2 : Int32} (hI : RI μ) (h : ∀ μ9 : TMem, FA μ μ9 → Qm 1 μ9) : wp_X11_isCrowded_n μ a2 Qm := h _ ((FA.rf hI).st (by decide) (Or.inr (by decide)))
theorem ta_thr {a1 a2 : Int32} {B : TMem → Prop} (hI : RI μ) (hq : ∀ μ9, FA μ μ9 → Qm 0 μ9) (hb : ∀ μ3, FA μ μ3 → a1 ≠ 0 → a2 ≠ 0 → B μ3) : wp_X11_isThrown μ a1 a2 (fun r μ3 => (r = 0 → B μ3) ∧ (¬ r = 0 → Qm 0 μ3)) :=
  ta_isThrown hI (fun r μ3 b f h0 => ⟨fun c => hb μ3 f (h0 c).1 (h0 c).2, fun _ => hq _ f⟩)
theorem ta_tell {a1 a2 : Int32} (hI : RI μ) (h : ∀ (r : Int32) (μ9 : TMem), FA μ μ9 → Qm r μ9) : wp_X11_tell μ a1 a2 Qm := by
  refine t_isOne (fun r1 b1 h1 => t_isIn (fun r2 b2 h2 => ta_thr hI (h 0) (fun μ3 f3 c1 c2 => ?_)))
  have hm := h1 c1
  exact ⟨fun _ => ⟨fun _ => ⟨fun _ => ⟨fun _ => t_isPlain hm f3.1 (fun r _ => ⟨fun _ => h _ _ f3, fun _ => h _ _ f3⟩), fun _ => ⟨hm.in4, h _ _ f3⟩⟩, fun _ => ⟨hm.in4, h _ _ f3⟩⟩, fun _ => t_arrowsOf hm (fun r => h _ _ f3)⟩, fun _ => ⟨hm.in4, h _ _ f3⟩⟩
theorem ta_arrows {a1 a2 a3 : Int32} (hI : RI μ) (h : ∀ (r : Int32) (μ9 : TMem), FA μ μ9 → Qm r μ9) : wp_X11_arrows μ a1 a2 a3 Qm := by
  refine t_ost hI (fun j hj => t_isIn (fun r4 b4 h4 => ta_thr hI (h 0) (fun μ5 f5 c1 c2 => ?_)))
  obtain ⟨hm, hs⟩ := hj c1
  exact t_keyv hm hs (h4 c2) (fun r hr => ⟨hr, h _ _ f5⟩)
theorem ta_takes {a1 a2 a3 : Int32} (hI : RI μ) (h : ∀ (r : Int32) (μ9 : TMem), FA μ μ9 → Qm r μ9) : wp_X11_takes μ a1 a2 a3 Qm := by
  refine t_isOne (fun r1 b1 h1 => t_isWord (fun r2 h2 => ta_isThrown hI (fun r4 μ3 b4 f3 h4 => ⟨fun _ => h _ _ f3, fun c => ?_⟩)))
  have hm := h1 (h4 c).1
  exact t_setAfter hm f3.1 (h2 (h4 c).2).2 (fun r8 => ⟨hm.in4, fun _ => h _ _ f3, fun _ => h _ _ f3⟩)
theorem ta_after {a1 a2 a3 a4 : Int32} (hI : RI μ) (h : ∀ (r : Int32) (μ9 : TMem), FA μ μ9 → Qm r μ9) : wp_X11_after μ a1 a2 a3 a4 Qm := by
  refine t_isOne (fun r1 b1 h1 => t_isWord (fun r2 h2 => ?_))
  intro J hJ
  have key : ∀ j : Int32, (j ≠ 0 → r2 ≠ 0) → J j := by
    intro j hj
    refine hJ j (ta_thr hI (h 0) (fun μ5 f5 c1 c2 => ?_))
    have hm := h1 c1
    have h3 := (h2 (hj c2)).2
    refine ⟨fun _ => ?_, fun _ => t_setAfter hm f5.1 h3 (fun r => h _ _ f5)⟩
    intro J9 hJ9
    have key9 : ∀ j, J9 j := by
      intro j
      refine hJ9 j (t_fnd hm f5.1 (fun r hr => ⟨fun _ => ta_isCrowded_n f5.1 (fun μ9 f9 => ⟨fun z => absurd z (by decide), fun _ => h _ _ (f5.trans f9)⟩), fun n f e => ?_⟩))
      obtain ⟨S, hS1, hS, rfl, hf, _⟩ := (hr n f e).get
      refine ta_isCrowded f5.1 (fun μ9 f9 => ⟨fun _ => ?_, fun z => absurd rfl z⟩)
      have L : ∀ (n : Nat) (v30 v31 v32 : Int32), (a2.toInt - v30.toInt).toNat < n → 0 ≤ v31.toInt → 0 ≤ v32.toInt → v32.toInt < S → wpl_X11_after_88_28 μ9 f (4 * S) a2 Qm n v30 v31 v32 := by
        intro n
        induction n with
        | zero => intro v30 v31 v32 hk; exact absurd hk (Nat.not_lt_zero _)
        | succ n ih =>
          intro v30 v31 v32 hk h31 g1 g2
          refine ⟨fun _ => h _ _ (f5.trans f9), fun c => ?_⟩
          have c1 := nle c
          have e1 := inc_i c
          obtain ⟨m1, m2⟩ := mod3 h31
          obtain ⟨k1, k2, k3⟩ := fourk g1 g2 hS m1.1 (by omega)
          refine ⟨k3, ?_⟩
          have k4 := hf v32.toInt.toNat (v31 - v31 / (3 : Int32) * (3 : Int32)).toInt.toNat (by omega) (by omega)
          rw [k2]
          exact ih _ _ _ (by omega) m2 k4.1 k4.2
      exact ⟨_, L _ 0 a3 0 (Nat.lt_succ_self _) h3 (by decide) (by rw [ii_0]; omega)⟩
    exact ⟨fun _ => key9 _, fun _ => key9 _⟩
  exact ⟨fun _ => key 0 (fun z => absurd rfl z), fun c => t_isIn (fun r b h5 => ⟨fun _ => key 0 (fun z => absurd rfl z), fun _ => key 1 (fun _ => c)⟩)⟩
theorem ta_size {a1 a2 : Int32} (hI : RI μ) (h : ∀ (r : Int32) (μ9 : TMem), FA μ μ9 → Qm r μ9) : wp_X11_size μ a1 a2 Qm := by
  refine t_isOne (fun r1 b1 h1 => t_isIn (fun r2 b2 h2 => ta_thr hI (h 0) (fun μ3 f3 c1 c2 => ?_)))
  exact t_fnd (h1 c1) f3.1 (fun r hr => ⟨fun _ => ta_isCrowded_n f3.1 (fun μ9 f9 => ⟨fun z => absurd z (by decide), fun _ => h _ _ (f3.trans f9)⟩), fun n f e => ta_isCrowded f3.1 (fun μ9 f9 => ⟨fun _ => h _ _ (f3.trans f9), fun _ => h _ _ (f3.trans f9)⟩)⟩)
theorem ta_kind {a1 : Int32} (hI : RI μ) (h : ∀ (r : Int32) (μ9 : TMem), FA μ μ9 → Qm r μ9) : wp_X11_kind μ a1 Qm := by
  refine t_isOne (fun r1 b1 h1 => ta_thr hI (h 0) (fun μ3 f3 c1 c2 => ?_))
  refine t_fnd (h1 c1) f3.1 (fun r hr => ⟨fun _ => ta_isCrowded_n f3.1 (fun μ9 f9 => ⟨fun z => absurd z (by decide), fun _ => h _ _ (f3.trans f9)⟩), fun n f e => ta_isCrowded f3.1 (fun μ9 f9 => ⟨fun _ => ?_, fun _ => h _ _ (f3.trans f9)⟩)⟩)
  obtain ⟨S, hS1, hS, rfl, hf, _⟩ := (hr n f e).get
  obtain ⟨q1, q2, q3, q4⟩ := quart hS
  have L : ∀ (n : Nat) (v18 : Int32), ((2 : Int) * S - v18.toInt).toNat < n → wpl_X11_kind_49 μ9 f (4 * S) ((nI (4 * S)) / (4 : Int32)) Qm n v18 := by
    intro n
    induction n with
    | zero => intro v18 hk; exact absurd hk (Nat.not_lt_zero _)
    | succ n ih =>
      intro v18 hk
      refine ⟨fun _ => h _ _ (f3.trans f9), fun c => ?_⟩
      have c1 := nle c
      have e1 := inc_i c
      have e2 : ((2 : Int32) * ((nI (4 * S)) / (4 : Int32))).toInt = 2 * (S : Int) := ii_m rfl q1 (by omega) (by omega)
      rw [e2] at c1
      exact t_isReached hS (fun r21 => ⟨fun _ => ih _ (by omega), fun _ => h _ _ (f3.trans f9)⟩)
  exact ⟨fun _ => ⟨_, L _ _ (Nat.lt_succ_self _)⟩, fun _ => ⟨vin (by rw [show (3 : Int32).toInt = 3 from rfl]; omega), h _ _ (f3.trans f9)⟩⟩
theorem ta_many {a1 a2 a3 : Int32} (hI : RI μ) (h : ∀ (r : Int32) (μ9 : TMem), FA μ μ9 → Qm r μ9) : wp_X11_many μ a1 a2 a3 Qm := by
  refine t_isOne (fun r1 b1 h1 => t_isIn (fun r2 b2 h2 => ?_))
  intro J hJ
  have key : ∀ j : Int32, (j ≠ 0 → r2 ≠ 0) → J j := by
    intro j hj
    refine hJ j (ta_thr hI (h 0) (fun μ5 f5 c1 c2 => ?_))
    have hm := h1 c1
    have hl := h2 (hj c2)
    rw [ii_0, show (12 : Int32).toInt = 12 from rfl] at hl
    refine ⟨fun _ => ?_, fun _ => t_fnd hm f5.1 (fun r hr => ⟨fun _ => ta_isCrowded_n f5.1 (fun μ9 f9 => ⟨fun z => absurd z (by decide), fun _ => h _ _ (f5.trans f9)⟩), fun n f e => ta_isCrowded f5.1 (fun μ9 f9 => ⟨fun _ => ?_, fun _ => h _ _ (f5.trans f9)⟩)⟩)⟩
    · obtain ⟨r, hr⟩ := t_power a2
      have L : ∀ (n : Nat) (v10 v11 : Int32), (r.toInt - v10.toInt).toNat < n → 0 ≤ v10.toInt → wpl_X11_many_94 μ5 a1 a2 Qm n v10 v11 := by
        intro n
        induction n with
        | zero => intro v10 v11 hk; exact absurd hk (Nat.not_lt_zero _)
        | succ n ih =>
          intro v10 v11 hk h0
          refine hr _ ⟨fun _ => h _ _ f5, fun c => ?_⟩
          have c1 := nle c
          have e1 := inc_i c
          exact t_setAfter hm f5.1 h0 (fun r18 => ⟨hm.in4, fun _ => ih _ _ (by omega) (by omega), fun _ => ih _ _ (by omega) (by omega)⟩)
      exact ⟨_, L _ 0 0 (Nat.lt_succ_self _) (by decide)⟩
    · have ho := hr n f e
      obtain ⟨S, _, _, rfl, _, _⟩ := ho.get
      exact t_ways ho hl (fun r => h _ _ (f5.trans f9))
  have no : J 0 := key 0 (fun z => absurd rfl z)
  exact ⟨fun _ => no, fun c => t_isIn (fun r b h5 => ⟨fun _ => no, fun _ => ⟨fun _ => key 1 (fun _ => c), fun _ => ⟨fun _ => no, fun _ => key 1 (fun _ => c)⟩⟩⟩)⟩
theorem ta_isCrowded' {na1 : Nat} {fa1 : Nat → Int32} {a2 : Int32} (hI : RI μ) (h : ∀ μ9 : TMem, FA μ μ9 → (∀ k : Nat, 1 ≤ k → μ9 k = μ k) → Qm 0 μ9) : wp_X11_isCrowded μ na1 fa1 a2 Qm := h _ ((FA.rf hI).st (by decide) (Or.inr (by decide))) (fun k hk => by
  have : k ≠ 0 := by omega
  simp [tms, this])
theorem ta_pairs {a1 a2 : Int32} (hI : RI μ) (h : ∀ (r : Int32) (μ9 : TMem), FA μ μ9 → Qm r μ9) : wp_X11_pairs μ a1 a2 Qm := by
  refine t_two (fun j hj => ta_thr hI (h 0) (fun μ4 f4 c1 c2 => ?_))
  obtain ⟨m1, m2⟩ := hj c1
  refine t_pairsOf m1 m2 f4.1 ?_ (fun f _ hf => ?_)
  · exact ⟨fun _ => ta_isCrowded_n f4.1 (fun μ9 f9 => ⟨fun z => absurd z (by decide), fun _ => h _ _ (f4.trans f9)⟩), fun n f e => by cases e⟩
  · refine ⟨fun e => (by cases e), fun n f e => ?_⟩
    cases e
    exact ta_isCrowded f4.1 (fun μ9 f9 => ⟨fun _ => ⟨vin (by rw [ii_0]; omega), h _ _ (f4.trans f9)⟩, fun _ => h _ _ (f4.trans f9)⟩)
theorem ta_isAlike {a1 a2 a3 : Int32} (hI : RI μ) (h : ∀ (r : Int32) (μ9 : TMem), FA μ μ9 → Qm r μ9) : wp_X11_isAlike μ a1 a2 a3 Qm := by
  refine t_two (fun j hj => t_isIn (fun r4 b4 h4 => ta_thr hI (h 0) (fun μ5 f5 c1 c2 => ?_)))
  obtain ⟨m1, m2⟩ := hj c1
  have q : ∀ (r : Int32) (μ9 : TMem), FA μ5 μ9 → Qm r μ9 := fun r μ9 f9 => h _ _ (f5.trans f9)
  refine ⟨fun _ => t_fnd m1 f5.1 (fun r hr => ⟨fun _ => t_fnd m2 f5.1 (fun r' hr' => ⟨fun _ => ta_isCrowded_n f5.1 (fun μ6 f6 => ⟨fun _ => q _ _ f6, fun z => absurd z (by decide)⟩), fun n f e => ta_isCrowded_n f5.1 (fun μ6 f6 => ⟨fun _ => q _ _ f6, fun z => absurd z (by decide)⟩)⟩), fun n f e => t_fnd m2 f5.1 (fun r' hr' => ⟨fun _ => ta_isCrowded f5.1 (fun μ6 f6 => ⟨fun _ => q _ _ f6, fun _ => ta_isCrowded_n f6.1 (fun μ7 f7 => ⟨fun z => absurd z (by decide), fun _ => q _ _ (f6.trans f7)⟩)⟩), fun n' f' e' => ta_isCrowded f5.1 (fun μ6 f6 => ⟨fun _ => q _ _ f6, fun _ => ta_isCrowded f6.1 (fun μ7 f7 => ⟨fun _ => ?_, fun _ => q _ _ (f6.trans f7)⟩)⟩)⟩)⟩), fun _ => ?_⟩
  · obtain ⟨S1, g11, g1, rfl, _, _⟩ := (hr n f e).get
    obtain ⟨S2, g12, g2, rfl, _, _⟩ := (hr' n' f' e').get
    have q3 := (quart g1).2.2.1
    have q4 := (quart g2).2.2.1
    have L : ∀ (n : Nat) (v52 v53 : Int32), ((4 * (S1 : Int)) - v52.toInt).toNat < n → 0 ≤ v52.toInt → (v53 = 0 ∨ (v53 = 1 ∧ S1 = S2)) → wpl_X11_isAlike_130 μ7 f (4 * S1) f' (4 * S2) Qm n v52 v53 := by
      intro n
      induction n with
      | zero => intro v52 v53 hk; exact absurd hk (Nat.not_lt_zero _)
      | succ n ih =>
        intro v52 v53 hk h0 hb
        have hb' : isB v53 := hb.imp id And.left
        refine ⟨fun _ => ⟨hb', q _ _ (f6.trans f7)⟩, fun c0 => ⟨fun _ => ⟨hb', q _ _ (f6.trans f7)⟩, fun c => ?_⟩⟩
        have c1 := nle c
        have e1 := inc_i c
        rw [q3] at c1
        have e2 := (hb.resolve_left c0).2
        exact ⟨vin (by omega), vin (by omega), fun _ => ih _ _ (by omega) (by omega) (Or.inl rfl), fun _ => ih _ _ (by omega) (by omega) (Or.inr ⟨rfl, e2⟩)⟩
    intro J hJ
    refine ⟨fun _ => hJ _ ⟨_, L _ 0 0 (Nat.lt_succ_self _) (by decide) (Or.inl rfl)⟩, fun c => hJ _ ⟨_, L _ 0 1 (Nat.lt_succ_self _) (by decide) (Or.inr ⟨rfl, ?_⟩)⟩⟩
    have := congrArg Int32.toInt c
    rw [q3, q4] at this
    omega
  · refine t_pairsOf m1 m2 f5.1 ?_ (fun f _ hf => ?_)
    · exact ⟨fun _ => ta_isCrowded_n f5.1 (fun μ9 f9 => ⟨fun _ => q _ _ f9, fun z => absurd z (by decide)⟩), fun n f e => by cases e⟩
    refine ⟨fun e => (by cases e), fun n f' e => ?_⟩
    cases e
    exact ta_isCrowded' f5.1 (fun μ9 f9 e9 => ⟨fun _ => q _ _ f9, fun _ => hf μ9 e9 _ (fun r _ => ⟨fun _ => q _ _ f9, fun _ => q _ _ f9⟩)⟩)
theorem ta_together {a1 a2 a3 a4 : Int32} (hI : RI μ) (h : ∀ (r : Int32) (μ9 : TMem), FA μ μ9 → Qm r μ9) : wp_X11_together μ a1 a2 a3 a4 Qm := by
  refine t_two (fun j hj => t_isIn (fun r4 b4 h4 => ?_))
  intro J hJ
  have key : ∀ i : Int32, (i ≠ 0 → -1 ≤ a4.toInt ∧ a4.toInt ≤ 12) → J i := by
    intro i hi
    refine hJ i (ta_thr hI (h 0) (fun μ5 f5 c1 c2 => ?_))
    obtain ⟨m1, m2⟩ := hj c1
    have hl := hi c2
    have q : ∀ (r : Int32) (μ9 : TMem), FA μ5 μ9 → Qm r μ9 := fun r μ9 f9 => h _ _ (f5.trans f9)
    refine t_both m1 m2 f5.1 (fun r hr => ⟨fun _ => ⟨fun _ => ta_isCrowded_n f5.1 (fun μ6 f6 => ⟨fun z => absurd z (by decide), fun _ => q _ _ f6⟩), fun n f e => by cases e⟩, fun n f e => (lst n f (hr n f e)).use (fun r' hr' => ⟨fun _ => ta_isCrowded_n f5.1 (fun μ6 f6 => ⟨fun z => absurd z (by decide), fun _ => q _ _ f6⟩), fun n' f' e' => ta_isCrowded f5.1 (fun μ6 f6 => ⟨fun _ => ⟨fun c => ?_, fun _ => q _ _ f6⟩, fun _ => q _ _ f6⟩)⟩)⟩)
    have ho := hr' n' f' e'
    obtain ⟨S, _, _, rfl, _, _⟩ := ho.get
    have c9 : a4.toInt ≠ -1 := fun e => c (l_eq.mpr (by rw [e]; rfl))
    exact t_ways ho (by omega) (fun r => q _ _ f6)
  have no : J 0 := key 0 (fun z => absurd rfl z)
  exact ⟨fun _ => no, fun c => t_isIn (fun r5 b5 h5 => ⟨fun _ => no, fun c5 => key 1 (fun _ => h5 c5)⟩)⟩
theorem ta_house {a1 : Int32} (hI : RI μ) (h : ∀ (r : Int32) (μ9 : TMem), FA μ μ9 → Qm r μ9) : wp_X11_house μ a1 Qm := by
  exact t_isIn (fun r1 b1 h1 => ta_thr hI (h 0) (fun μ2 f2 c1 c2 => ⟨fun _ => ⟨fun _ => h _ _ f2, fun _ => h _ _ f2⟩, fun _ => h _ _ f2⟩))
theorem ta_isSound (hI : RI μ) (h : ∀ μ9 : TMem, FA μ μ9 → Qm 1 μ9) : wp_X11_isSound μ Qm := h _ ((FA.rf hI).st (by decide) (Or.inr (by decide)))
theorem ta_digest {Qd : Int64 → TMem → Prop} (hI : RI μ) (h : ∀ (r : Int64) (μ9 : TMem), FA μ μ9 → Qd r μ9) : wp_X11_digest μ Qd := by
  have L14 : ∀ (v8 : Int32) (K : Int64 → TMem → Prop), (∀ u μ9, FA μ μ9 → K u μ9) → ∀ (n : Nat) (v7 : Int32) (v9 : Int64) (μ10 : TMem), ((5 : Int) - v7.toInt).toNat < n → FA μ μ10 → wpl_X11_digest_14 v8 K n v7 v9 μ10 := by
    intro v8 K hK n
    induction n with
    | zero => intro v7 v9 μ10 hk; exact absurd hk (Nat.not_lt_zero _)
    | succ n ih =>
      intro v7 v9 μ10 hk f
      refine ⟨fun _ => hK _ _ f, fun c => ?_⟩
      have c1 := nle c
      have e1 := inc_i c
      rw [show (5 : Int32).toInt = 5 from rfl] at c1
      exact ta_tell f.1 (fun r μ9 f9 => ih _ _ _ (by omega) (f.trans f9))
  have L44 : ∀ (μ16 : TMem) (v19 : Int32) (K : Int64 → Prop), M1 v19 → RI μ16 → (∀ u, K u) → ∀ (n : Nat) (v18 : Int32) (v20 : Int64), ((21 : Int) - v18.toInt).toNat < n → 0 ≤ v18.toInt → wpl_X11_digest_44 μ16 v19 K n v18 v20 := by
    intro μ16 v19 K hm hI6 hK n
    induction n with
    | zero => intro v18 v20 hk; exact absurd hk (Nat.not_lt_zero _)
    | succ n ih =>
      intro v18 v20 hk h0
      refine ⟨hm.in4, fun _ => hK _, fun c => ?_⟩
      have c1 := nle c
      have e1 := inc_i c
      have r7 := hm.ri hI6
      have k : ((μ16 1 v19.toNatClampNeg) * (3 : Int32)).toInt = (μ16 1 v19.toNatClampNeg).toInt * 3 := ii_m rfl rfl (by omega) (by omega)
      rw [k] at c1
      exact t_key0 hm (fun r23 _ g23 => ⟨g23 _ h0 (by omega), ih _ _ (by omega) (by omega)⟩)
  have L6 : ∀ (K : Int64 → TMem → Prop), (∀ u μ9, FA μ μ9 → K u μ9) → ∀ (n : Nat) (v2 : Int32) (v3 : Int64) (μ4 : TMem), ((4 : Int) - v2.toInt).toNat < n → 0 ≤ v2.toInt → FA μ μ4 → wpl_X11_digest_6 K n v2 v3 μ4 := by
    intro K hK n
    induction n with
    | zero => intro v2 v3 μ4 hk; exact absurd hk (Nat.not_lt_zero _)
    | succ n ih =>
      intro v2 v3 μ4 hk h0 f
      refine ⟨fun _ => hK _ _ f, fun c => ?_⟩
      have c1 := nle c
      have e1 := inc_i c
      rw [show (4 : Int32).toInt = 4 from rfl] at c1
      exact ⟨_, L14 v2 _ (fun u μ9 f9 => ⟨_, L44 μ9 v2 _ ⟨h0, by omega⟩ f9.1 (fun u' => ih _ _ _ (by omega) (by omega) f9) _ 0 u (Nat.lt_succ_self _) (by decide)⟩) _ 0 v3 μ4 (Nat.lt_succ_self _) f⟩
  exact ⟨_, L6 _ (fun u μ9 f9 => h _ _ (f9.st (by decide) (Or.inr (by decide)))) _ 0 _ μ (Nat.lt_succ_self _) (by decide) (FA.rf hI)⟩
end FAR
