section RMC
variable {Q : Int32 → Prop} {Qm : Int32 → TMem → Prop} {Qv : TMem → Prop} {μ : TMem}
theorem t_combine {a1 a2 a3 a4 : Int32} (hI : RI μ) (h : ∀ (r : Int32) (μ9 : TMem), FQ μ μ9 → Qm r μ9) : wp_X11_combine μ a1 a2 a3 a4 Qm := by
  refine t_isOne (fun r1 b1 h1 => ?_)
  intro J hJ
  have key : ∀ j : Int32, (j ≠ 0 → M1 a1 ∧ M1 a2 ∧ M1 a4) → J j := by
    intro j hj
    refine hJ j (t_isIn (fun r4 b4 h4 => t_thr hI (h 0) (fun μ5 f5 c1 c2 => ?_)))
    obtain ⟨m1, m2, m4⟩ := hj c1
    have q : ∀ (r : Int32) (μ9 : TMem), FQ μ5 μ9 → Qm r μ9 := fun r μ9 f9 => h _ _ (f5.trans f9)
    exact t_both m1 m2 f5.1 (fun r hr => ⟨fun _ => ⟨fun _ => t_become_n f5.1 q, fun n f e => by cases e⟩, fun n f e => (lst n f (hr n f e)).use (fun r' hr' => ⟨fun _ => t_become_n f5.1 q, fun n f e => t_become (hr' n f e) m4 f5.1 q⟩)⟩)
  have no : J 0 := key 0 (fun z => absurd rfl z)
  exact ⟨fun _ => no, fun c1 => t_isOne (fun r2 b2 h2 => ⟨fun _ => no, fun c2 => t_isOne (fun r3 b3 h3 => ⟨fun _ => no, fun c3 => key 1 (fun _ => ⟨h1 c1, h2 c2, h3 c3⟩)⟩)⟩)⟩
theorem t_pairs {a1 a2 : Int32} (hI : RI μ) (h : ∀ (r : Int32) (μ9 : TMem), FQ μ μ9 → Qm r μ9) : wp_X11_pairs μ a1 a2 Qm := by
  refine t_two (fun j hj => t_thr hI (h 0) (fun μ4 f4 c1 c2 => ?_))
  obtain ⟨m1, m2⟩ := hj c1
  refine t_pairsOf m1 m2 f4.1 ?_ (fun f _ hf => ?_)
  · exact ⟨fun _ => t_isCrowded_n f4.1 (fun μ9 f9 => ⟨fun z => absurd z (by decide), fun _ => h _ _ (f4.trans f9)⟩), fun n f e => by cases e⟩
  · refine ⟨fun e => (by cases e), fun n f e => ?_⟩
    cases e
    exact t_isCrowded f4.1 (fun μ9 f9 => ⟨fun _ => ⟨vin (by rw [ii_0]; omega), h _ _ (f4.trans f9)⟩, fun _ => h _ _ (f4.trans f9)⟩)
theorem t_isAlike {a1 a2 a3 : Int32} (hI : RI μ) (h : ∀ (r : Int32) (μ9 : TMem), FQ μ μ9 → Qm r μ9) : wp_X11_isAlike μ a1 a2 a3 Qm := by
  refine t_two (fun j hj => t_isIn (fun r4 b4 h4 => t_thr hI (h 0) (fun μ5 f5 c1 c2 => ?_)))
  obtain ⟨m1, m2⟩ := hj c1
  have q : ∀ (r : Int32) (μ9 : TMem), FQ μ5 μ9 → Qm r μ9 := fun r μ9 f9 => h _ _ (f5.trans f9)
  refine ⟨fun _ => t_fnd m1 f5.1 (fun r hr => ⟨fun _ => t_fnd m2 f5.1 (fun r' hr' => ⟨fun _ => t_isCrowded_n f5.1 (fun μ6 f6 => ⟨fun _ => q _ _ f6, fun z => absurd z (by decide)⟩), fun n f e => t_isCrowded_n f5.1 (fun μ6 f6 => ⟨fun _ => q _ _ f6, fun z => absurd z (by decide)⟩)⟩), fun n f e => t_fnd m2 f5.1 (fun r' hr' => ⟨fun _ => t_isCrowded f5.1 (fun μ6 f6 => ⟨fun _ => q _ _ f6, fun _ => t_isCrowded_n f6.1 (fun μ7 f7 => ⟨fun z => absurd z (by decide), fun _ => q _ _ (f6.trans f7)⟩)⟩), fun n' f' e' => t_isCrowded f5.1 (fun μ6 f6 => ⟨fun _ => q _ _ f6, fun _ => t_isCrowded f6.1 (fun μ7 f7 => ⟨fun _ => ?_, fun _ => q _ _ (f6.trans f7)⟩)⟩)⟩)⟩), fun _ => ?_⟩
  · obtain ⟨S1, g11, g1, rfl, _, _⟩ := (hr n f e).get
    obtain ⟨S2, g12, g2, rfl, _, _⟩ := (hr' n' f' e').get
    have q3 := (quart g1).2.2.1
    have q4 := (quart g2).2.2.1
    have L : ∀ (n : Nat) (v52 v53 : Int32), ((4 * (S1 : Int)) - v52.toInt).toNat < n → 0 ≤ v52.toInt → (v53 = 0 ∨ (v53 = 1 ∧ S1 = S2)) → wpl_X11_isAlike_130 μ7 f (4 * S1) f' (4 * S2) Qm n v52 v53 := by
      intro n
      induction n with
      | zero => intro v52 v53 hk; exact absurd hk (Nat.not_lt_zero _)
      | succ n ih =>
        intro v52 v53 hk h0 hb
        have hb' : isB v53 := hb.imp id And.left
        refine ⟨fun _ => ⟨hb', q _ _ (f6.trans f7)⟩, fun c0 => ⟨fun _ => ⟨hb', q _ _ (f6.trans f7)⟩, fun c => ?_⟩⟩
        have c1 := nle c
        have e1 := inc_i c
        rw [q3] at c1
        have e2 := (hb.resolve_left c0).2
        exact ⟨vin (by omega), vin (by omega), fun _ => ih _ _ (by omega) (by omega) (Or.inl rfl), fun _ => ih _ _ (by omega) (by omega) (Or.inr ⟨rfl, e2⟩)⟩
    intro J hJ
    refine ⟨fun _ => hJ _ ⟨_, L _ 0 0 (Nat.lt_succ_self _) (by decide) (Or.inl rfl)⟩, fun c => hJ _ ⟨_, L _ 0 1 (Nat.lt_succ_self _) (by decide) (Or.inr ⟨rfl, ?_⟩)⟩⟩
    have := congrArg Int32.toInt c
    rw [q3, q4] at this
    omega
  · refine t_pairsOf m1 m2 f5.1 ?_ (fun f _ hf => ?_)
    · exact ⟨fun _ => t_isCrowded_n f5.1 (fun μ9 f9 => ⟨fun _ => q _ _ f9, fun z => absurd z (by decide)⟩), fun n f e => by cases e⟩
    refine ⟨fun e => (by cases e), fun n f' e => ?_⟩
    cases e
    exact t_isCrowded' f5.1 (fun μ9 f9 e9 => ⟨fun _ => q _ _ f9, fun _ => hf μ9 e9 _ (fun r _ => ⟨fun _ => q _ _ f9, fun _ => q _ _ f9⟩)⟩)
theorem t_together {a1 a2 a3 a4 : Int32} (hI : RI μ) (h : ∀ (r : Int32) (μ9 : TMem), FQ μ μ9 → Qm r μ9) : wp_X11_together μ a1 a2 a3 a4 Qm := by
  refine t_two (fun j hj => t_isIn (fun r4 b4 h4 => ?_))
  intro J hJ
  have key : ∀ i : Int32, (i ≠ 0 → -1 ≤ a4.toInt ∧ a4.toInt ≤ 12) → J i := by
    intro i hi
    refine hJ i (t_thr hI (h 0) (fun μ5 f5 c1 c2 => ?_))
    obtain ⟨m1, m2⟩ := hj c1
    have hl := hi c2
    have q : ∀ (r : Int32) (μ9 : TMem), FQ μ5 μ9 → Qm r μ9 := fun r μ9 f9 => h _ _ (f5.trans f9)
    refine t_both m1 m2 f5.1 (fun r hr => ⟨fun _ => ⟨fun _ => t_isCrowded_n f5.1 (fun μ6 f6 => ⟨fun z => absurd z (by decide), fun _ => q _ _ f6⟩), fun n f e => by cases e⟩, fun n f e => (lst n f (hr n f e)).use (fun r' hr' => ⟨fun _ => t_isCrowded_n f5.1 (fun μ6 f6 => ⟨fun z => absurd z (by decide), fun _ => q _ _ f6⟩), fun n' f' e' => t_isCrowded f5.1 (fun μ6 f6 => ⟨fun _ => ⟨fun c => ?_, fun _ => q _ _ f6⟩, fun _ => q _ _ f6⟩)⟩)⟩)
    have ho := hr' n' f' e'
    obtain ⟨S, _, _, rfl, _, _⟩ := ho.get
    have c9 : a4.toInt ≠ -1 := fun e => c (l_eq.mpr (by rw [e]; rfl))
    exact t_ways ho (by omega) (fun r => q _ _ f6)
  have no : J 0 := key 0 (fun z => absurd rfl z)
  exact ⟨fun _ => no, fun c => t_isIn (fun r5 b5 h5 => ⟨fun _ => no, fun c5 => key 1 (fun _ => h5 c5)⟩)⟩
theorem t_house {a1 : Int32} (hI : RI μ) (h : ∀ (r : Int32) (μ9 : TMem), FQ μ μ9 → Qm r μ9) : wp_X11_house μ a1 Qm := by
  exact t_isIn (fun r1 b1 h1 => t_thr hI (h 0) (fun μ2 f2 c1 c2 => ⟨fun _ => ⟨fun _ => h _ _ f2, fun _ => h _ _ f2⟩, fun _ => h _ _ f2⟩))
theorem t_knock (hI : RI μ) (h : ∀ μ9 : TMem, RI μ9 → μ9 0 6 = μ 0 6 + 1 → Qm (μ 0 6 + 1) μ9) : wp_X11_knock μ Qm := by
  have f1 : FQ μ (tms μ 0 7 0) := (FQ.rf hI).st (by decide) (Or.inr (by decide))
  have e : (tms (tms μ 0 7 0) 0 6 (((tms μ 0 7 0) 0 6) + 1)) 0 6 = μ 0 6 + 1 := by simp [tms, upd]
  have e' : wp_X11_knock μ Qm = Qm ((tms (tms μ 0 7 0) 0 6 (((tms μ 0 7 0) 0 6) + 1)) 0 6) (tms (tms μ 0 7 0) 0 6 (((tms μ 0 7 0) 0 6) + 1)) := rfl
  rw [e', e]
  exact h _ (fun j hj => f1.1 j hj) e
theorem t_isSound (hI : RI μ) (h : ∀ μ9 : TMem, FQ μ μ9 → Qm 1 μ9) : wp_X11_isSound μ Qm := h _ ((FQ.rf hI).st (by decide) (Or.inr (by decide)))
theorem t_digest {Qd : Int64 → TMem → Prop} (hI : RI μ) (h : ∀ (r : Int64) (μ9 : TMem), FQ μ μ9 → Qd r μ9) : wp_X11_digest μ Qd := by
  have L14 : ∀ (v8 : Int32) (K : Int64 → TMem → Prop), (∀ u μ9, FQ μ μ9 → K u μ9) → ∀ (n : Nat) (v7 : Int32) (v9 : Int64) (μ10 : TMem), ((5 : Int) - v7.toInt).toNat < n → FQ μ μ10 → wpl_X11_digest_14 v8 K n v7 v9 μ10 := by
    intro v8 K hK n
    induction n with
    | zero => intro v7 v9 μ10 hk; exact absurd hk (Nat.not_lt_zero _)
    | succ n ih =>
      intro v7 v9 μ10 hk f
      refine ⟨fun _ => hK _ _ f, fun c => ?_⟩
      have c1 := nle c
      have e1 := inc_i c
      rw [show (5 : Int32).toInt = 5 from rfl] at c1
      exact t_tell f.1 (fun r μ9 f9 => ih _ _ _ (by omega) (f.trans f9))
  have L44 : ∀ (μ16 : TMem) (v19 : Int32) (K : Int64 → Prop), M1 v19 → RI μ16 → (∀ u, K u) → ∀ (n : Nat) (v18 : Int32) (v20 : Int64), ((21 : Int) - v18.toInt).toNat < n → 0 ≤ v18.toInt → wpl_X11_digest_44 μ16 v19 K n v18 v20 := by
    intro μ16 v19 K hm hI6 hK n
    induction n with
    | zero => intro v18 v20 hk; exact absurd hk (Nat.not_lt_zero _)
    | succ n ih =>
      intro v18 v20 hk h0
      refine ⟨hm.in4, fun _ => hK _, fun c => ?_⟩
      have c1 := nle c
      have e1 := inc_i c
      have r7 := hm.ri hI6
      have k : ((μ16 1 v19.toNatClampNeg) * (3 : Int32)).toInt = (μ16 1 v19.toNatClampNeg).toInt * 3 := ii_m rfl rfl (by omega) (by omega)
      rw [k] at c1
      exact t_key0 hm (fun r23 _ g23 => ⟨g23 _ h0 (by omega), ih _ _ (by omega) (by omega)⟩)
  have L6 : ∀ (K : Int64 → TMem → Prop), (∀ u μ9, FQ μ μ9 → K u μ9) → ∀ (n : Nat) (v2 : Int32) (v3 : Int64) (μ4 : TMem), ((4 : Int) - v2.toInt).toNat < n → 0 ≤ v2.toInt → FQ μ μ4 → wpl_X11_digest_6 K n v2 v3 μ4 := by
    intro K hK n
    induction n with
    | zero => intro v2 v3 μ4 hk; exact absurd hk (Nat.not_lt_zero _)
    | succ n ih =>
      intro v2 v3 μ4 hk h0 f
      refine ⟨fun _ => hK _ _ f, fun c => ?_⟩
      have c1 := nle c
      have e1 := inc_i c
      rw [show (4 : Int32).toInt = 4 from rfl] at c1
      exact ⟨_, L14 v2 _ (fun u μ9 f9 => ⟨_, L44 μ9 v2 _ ⟨h0, by omega⟩ f9.1 (fun u' => ih _ _ _ (by omega) (by omega) f9) _ 0 u (Nat.lt_succ_self _) (by decide)⟩) _ 0 v3 μ4 (Nat.lt_succ_self _) f⟩
  exact ⟨_, L6 _ (fun u μ9 f9 => h _ _ (f9.st (by decide) (Or.inr (by decide)))) _ 0 _ μ (Nat.lt_succ_self _) (by decide) (FQ.rf hI)⟩
end RMC
