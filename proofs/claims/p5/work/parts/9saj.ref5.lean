section SRJ
variable {ν : TMem} {S : Nat → AM} {a r k t : Int32} {a1 : Int32} {Q : Int32 → TMem → Prop} {Qi : Int32 → Prop} {Qo : Option AI → Prop} {m : Nat} {A : AM} {D : DF} {na : Nat} {fa : Nat → Int32} {n : Nat}
theorem RCg_bit {c : Nat → Nat} {X s i : Nat} : ∀ z, (RCg c X s z).testBit i = (List.range z).any (fun f => X.testBit f && (c (3 * f + s)).testBit i) := by
  intro z
  induction z with
  | zero => rw [RCg]; simp
  | succ z ih =>
    rw [RCg, List.range_succ, List.any_append, ← ih]
    by_cases e : X.testBit z = true
    · rw [if_pos e, Nat.testBit_or]; simp [e]
    · rw [if_neg e]; simp [e]
theorem any_congr {z : Nat} {p q : Nat → Bool} (h : ∀ f, f < z → p f = q f) : (List.range z).any p = (List.range z).any q := by
  rw [Bool.eq_iff_iff, List.any_eq_true, List.any_eq_true]
  constructor
  · rintro ⟨x, hx, hp⟩
    exact ⟨x, hx, by rw [← h x (List.mem_range.mp hx)]; exact hp⟩
  · rintro ⟨x, hx, hp⟩
    exact ⟨x, hx, by rw [h x (List.mem_range.mp hx)]; exact hp⟩
theorem any_false {z : Nat} {p : Nat → Bool} (h : ∀ f, f < z → p f = false) : (List.range z).any p = false := by
  rw [any_congr (q := fun _ => false) h]
  induction z with
  | zero => rfl
  | succ z ih => rw [List.range_succ, List.any_append]; simp
theorem fX_RC {c c' : Nat → Nat} {X s : Nat} (hs : s < 3) (h : ∀ j, j < 3 * n → c j = c' j) (hb : ∀ j, j < 3 * n → c' j < 2 ^ n) : fX n c false X s = RC n c' X s := by
  refine s_ext (fun i => ?_)
  rw [fX, bitsN_bit, RC, RCg_bit, NX]
  by_cases e : i < n
  · rw [decide_eq_true e, Bool.true_and]
    exact any_congr (fun f hf => by rw [cnX]; simp only [Bool.false_eq_true, if_false]; rw [h _ (by omega)])
  · rw [decide_eq_false e, Bool.false_and]
    exact (any_false (fun f hf => by rw [s_big (hb (3 * f + s) (by omega)) (by omega)]; simp)).symm
theorem OWX_OWD {c c' : Nat → Nat} {st G : Nat} (h : ∀ j, j < 3 * n → c j = c' j) (hb : ∀ j, j < 3 * n → c' j < 2 ^ n) : OWX n c false st G = OWD n c' st G := by
  rw [OWX, OWD, EX, EX, EXs_congr (f := fX n c false) (f' := RC n c') (fun x s hs => fX_RC hs h hb)]
  simp only [Bool.false_eq_true, if_false]
theorem rr_arrowsAll {Qa : Nat → (Nat → Int64) → Prop} (hm : m < 4) (hR : HR ν m A) (h : ∀ f : Nat → Int64, (∀ j, j < 21 → f j = (A.2.2.2 j).toInt64) → Qa 21 f) : wp_X11_arrowsAll ν (nI m) Qa := by
  have L : ∀ (z i : Nat) (f : Nat → Int64), 21 - i < z → i ≤ 21 → (∀ j, j < i → f j = (A.2.2.2 j).toInt64) → wpl_X11_arrowsAll_7 ν 21 (nI m) Qa z (nI i) f := by
    intro z
    induction z with
    | zero => intro i f hk; exact absurd hk (Nat.not_lt_zero _)
    | succ z ih =>
      intro i f hk hi hf
      refine ⟨fun q => ?_, fun q => rr_key0 ?_⟩
      · rw [show (21 : Int32) = nI 21 from rfl, nI_leI (by omega) (by omega)] at q
        exact h f (fun j hj => hf j (by omega))
      rw [show (21 : Int32) = nI 21 from rfl, nI_leI (by omega) (by omega)] at q
      rw [nI_add, nI_clamp (by omega), nI_clamp (by omega), hR.2.2.2 i (by omega), nI_1]
      refine ⟨s_in (show _ < 84 by omega) (by omega), s_in (by omega) (by omega), ih (i + 1) _ (by omega) (by omega) (fun j hj => ?_)⟩
      by_cases e : j = i
      · rw [e, pk_uLs]
      · rw [pk_uLn e]; exact hf j (by omega)
  have g := L 22 0 (fun _ => 0) (by omega) (by omega) (fun j hj => absurd hj (Nat.not_lt_zero _))
  rw [nI_0] at g
  exact ⟨by decide, _, g⟩
theorem p7 {z n : Nat} (h : z < 2 ^ n) (hn : n ≤ 7) : z < 128 := Nat.lt_of_lt_of_le h (Nat.pow_le_pow_right (by decide) hn)
theorem rr_oneWayA (hm : m < 4) (hR : HR ν m A) (hv : AV A) (h1 : ∀ (D : DF) (nf : Nat) (g : Nat → Int32), OWM A = some D → HF nf g D → Qo (some (nf, g))) (h0 : OWM A = none → Qo none) : wp_X11_oneWay_ ν (nI m) Qo := by
  obtain ⟨v1, v7, vs, vg, vc, vz⟩ := hv
  refine rr_arrowsAll hm hR (fun f hf => ⟨s_in hm (by omega), s_in hm (by omega), s_in hm (by omega), ?_⟩)
  rw [nI_clamp (by omega), hR.1, hR.2.1, hR.2.2.1]
  have eo : OWX A.1 (fun j => ll (f j)) false (ll A.2.1.toInt64) (ll A.2.2.1.toInt64) = OWM A := by
    have q1 := p7 vs v7
    have q2 := p7 vg v7
    rw [ll_toInt64 (by omega), ll_toInt64 (by omega)]
    exact OWX_OWD (c' := fun j => nn (A.2.2.2 j)) (fun j hj => by have := p7 (vc j hj) v7; rw [hf j (by omega), ll_toInt64 (by omega)]) vc
  refine rr_oneWay (tr := false) (by omega) (by omega) ⟨fun _ => rfl, fun _ => rfl⟩ (fun D nf g e hF => ⟨(fun z => nomatch z), fun n10 f11 z => ?_⟩) (fun e => ⟨fun _ => h0 (by rw [← eo]; exact e), fun _ _ z => nomatch z⟩)
  cases z
  exact h1 D nf g (by rw [← eo]; exact e) hF
theorem SR_fX {c : Nat → Nat} {d : Nat → Int32} {x s : Nat} (hx : x < n) (hn : n ≤ 32) (hs : s < 3) (h : ∀ j, j < 3 * n → c j = nn (d j)) : fX n c true (2 ^ x) s = nn (SRg d x s n) := by
  refine s_ext (fun i => ?_)
  rw [fX, bitsN_bit, SRg_bit n hn]
  by_cases e : i < n
  · rw [decide_eq_true e, Bool.true_and, Bool.true_and, NX, ← h _ (by omega), Bool.eq_iff_iff, List.any_eq_true]
    constructor
    · rintro ⟨f, hf, hp⟩
      rw [cnX, Nat.testBit_two_pow] at hp
      simp at hp
      rw [hp.1]
      exact hp.2
    · intro hp
      refine ⟨x, List.mem_range.mpr hx, ?_⟩
      rw [cnX, Nat.testBit_two_pow]
      simpa using hp
  · rw [decide_eq_false e, Bool.false_and, Bool.false_and]
theorem l_of {y : Int64} (h : ll y < 2 ^ 31) : y.toInt32 = nI (ll y) := by
  have e : y = lN (ll y) := ll_inj (by
    show _ = (BitVec.ofNat 64 (ll y)).toNat
    rw [BitVec.toNat_ofNat]
    exact (Nat.mod_eq_of_lt (by omega)).symm)
  rw [e, lN_i, ← e]
theorem SRg_lt {d : Nat → Int32} {x s : Nat} (hn : n ≤ 32) : nn (SRg d x s n) < 2 ^ n := s_lt2 (fun i hi => by rw [SRg_bit n hn, decide_eq_false (by omega), Bool.false_and])
theorem rr_turn (h : RSt ν S a r k t) (hv : AVs S) (hok : ∀ m, m < 4 → a1 = nI m → ∀ ν9, RSt ν9 (sUp S m (aT (S m))) (a + 1) r k 0 → Q (AC (aT (S m))) ν9) (h1 : ¬ M1 a1 → ∀ b ν9, RSt ν9 S a r k 1 → Q b ν9) : wp_X11_turn ν a1 Q := by
  refine rr_one (fun m hm em => th_ok ⟨fun _ => ?_, fun q => absurd rfl q⟩) (fun z => th_1 ⟨fun q => absurd q (by decide), fun _ => h1 z _ _ (h.thr 1)⟩)
  have h0 := h.thr 0
  have hR := h0.1 m hm
  have hok' := hok m hm em
  have vA := hv m hm
  have im : (nI m).toNatClampNeg = m := nI_clamp (by omega)
  rw [em]
  generalize hN : tms ν 0 7 0 = N at *
  generalize hA : S m = A at *
  obtain ⟨v1, v7, vs, vg, vc, vz⟩ := vA
  refine rr_arrowsAll hm hR (fun f hf => ?_)
  obtain ⟨b1, b2, b3, b4⟩ := hR
  have cc : ∀ j, j < 3 * A.1 → ll (f j) = nn (A.2.2.2 j) := fun j hj => by
    have := p7 (vc j hj) v7
    rw [hf j (by omega), ll_toInt64 (by omega)]
  have L2 : ∀ (x : Nat) (K : TMem → Prop), x < A.1 → (∀ ν1, RW m N (fun j => SRg A.2.2.2 (j / 3) (j % 3) A.1) (3 * x + 3) ν1 → K ν1) → ∀ (z b : Nat) (ν1 : TMem), 3 - b < z → b ≤ 3 → RW m N (fun j => SRg A.2.2.2 (j / 3) (j % 3) A.1) (3 * x + b) ν1 → wpl_X11_turn_35 f 21 (nI x) (nI m) K z (nI b) ν1 := by
    intro x K hx hK z
    induction z with
    | zero => intro b ν1 hk; exact absurd hk (Nat.not_lt_zero _)
    | succ z ih =>
      intro b ν1 hk hb hW
      refine ⟨fun q => ?_, fun q => rr_key ⟨s_in hm (by omega), ?_⟩⟩
      · rw [show (3 : Int32) = nI 3 from rfl, nI_leI (by omega) (by omega)] at q
        rw [show 3 * x + b = 3 * x + 3 by omega] at hW
        exact hK ν1 hW
      rw [show (3 : Int32) = nI 3 from rfl, nI_leI (by omega) (by omega)] at q
      rw [im, hW.2.2 1 (by decide), b1]
      refine rr_next (tr := true) (by omega) (by omega) (by omega) (by decide) (fun y hy => ⟨s_in (show _ < 84 by omega) (by omega), ?_⟩)
      rw [ll_two x (by omega), SR_fX hx (by omega) (by omega) cc] at hy
      have ly : ll y < 128 := by rw [hy]; exact p7 (SRg_lt (by omega)) v7
      have ey : y.toInt32 = (fun j => SRg A.2.2.2 (j / 3) (j % 3) A.1) (3 * x + b) := by
        rw [l_of (by omega)]
        show _ = SRg A.2.2.2 ((3 * x + b) / 3) ((3 * x + b) % 3) A.1
        rw [show (3 * x + b) / 3 = x by omega, show (3 * x + b) % 3 = b by omega]
        refine nn_inj ?_
        rw [nn_nI (by omega), hy]
      rw [ey, nI_clamp (by omega), Nat.add_assoc, nI_1]
      exact ih (b + 1) _ (by omega) (by omega) hW.step
  have L1 : ∀ (K : TMem → Prop), (∀ ν1, RW m N (fun j => SRg A.2.2.2 (j / 3) (j % 3) A.1) (3 * A.1) ν1 → K ν1) → ∀ (z x : Nat) (ν1 : TMem), A.1 - x < z → x ≤ A.1 → RW m N (fun j => SRg A.2.2.2 (j / 3) (j % 3) A.1) (3 * x) ν1 → wpl_X11_turn_22 f 21 (nI m) K z (nI x) ν1 := by
    intro K hK z
    induction z with
    | zero => intro x ν1 hk; exact absurd hk (Nat.not_lt_zero _)
    | succ z ih =>
      intro x ν1 hk hx hW
      refine ⟨s_in hm (by omega), ?_⟩
      rw [im, hW.2.2 1 (by decide), b1]
      refine ⟨fun q => ?_, fun q => ?_⟩
      · rw [nI_leI (by omega) (by omega)] at q
        rw [show x = A.1 by omega] at hW
        exact hK ν1 hW
      rw [nI_leI (by omega) (by omega)] at q
      have g := L2 x (fun u => wpl_X11_turn_22 f 21 (nI m) K z (nI x + (1 : Int32)) u) (by omega) (fun ν9 h9 => by rw [nI_1]; exact ih (x + 1) ν9 (by omega) (by omega) h9) 4 0 ν1 (by omega) (by omega) hW
      rw [nI_0] at g
      exact ⟨_, g⟩
  have g := L1 (fun (μ29 : TMem) => vp_in (nI m) (ml 2) ∧ (vp_in (nI m) (ml 3) ∧ (vp_in (nI m) (ml 2) ∧ (vp_in (nI m) (ml 3) ∧ (wp_X11_arrowsOf (tms (tms μ29 2 m (μ29 3 m)) 3 m (μ29 2 m)) (nI m) (fun (r36 : Int32) => wp_X11_did (tms (tms μ29 2 m (μ29 3 m)) 3 m (μ29 2 m)) r36 (fun (r38 : Int32) (μ37 : TMem) => Q r38 μ37))))))) (fun N2 w => ?_) (A.1 + 1) 0 N (by omega) (Nat.zero_le _) RW.start
  · rw [nI_0] at g
    rw [im]
    exact ⟨_, g⟩
  refine ⟨s_in hm (by omega), s_in hm (by omega), s_in hm (by omega), s_in hm (by omega), ?_⟩
  have hRT : HR (tms (tms N2 2 m (N2 3 m)) 3 m (N2 2 m)) m (aT A) := ⟨by rw [tms_ne (by decide), tms_ne (by decide), w.2.2 1 (by decide)]; exact b1, by simp [tms_ix, aT, w.2.2 3 (by decide), b3], by simp [tms_ix, aT, w.2.2 2 (by decide), b2], fun j hj => by
    rw [tms_ne (by decide), tms_ne (by decide)]
    show _ = if j < 3 * A.1 then _ else _
    by_cases e : j < 3 * A.1
    · rw [if_pos e]; exact w.1 j e
    · rw [if_neg e, w.2.1 _ (by omega), b4 j hj]; exact vz j (by omega)⟩
  have vT : AV (aT A) := ⟨v1, v7, vg, vs, fun j hj => by
    have hj' : j < 3 * A.1 := hj
    show nn (if j < 3 * A.1 then SRg A.2.2.2 (j / 3) (j % 3) A.1 else 0) < 2 ^ A.1
    rw [if_pos hj']; exact SRg_lt (by omega), fun j hj => by
    have hj' : 3 * A.1 ≤ j := hj
    show (if j < 3 * A.1 then SRg A.2.2.2 (j / 3) (j % 3) A.1 else 0) = 0
    rw [if_neg (by omega)]⟩
  refine rr_arrowsOf hm hRT vT (hok' _ (h0.act hRT ⟨?_, fun i hi => ⟨?_, ?_, ?_⟩, fun p hp => ?_⟩))
  · rw [tms_ne (by decide), tms_ne (by decide), w.2.2 0 (by decide)]
  · simp [tms_ix, w.2.2 1 (by decide)]
  · simp [tms_ix, hi, w.2.2 2 (by decide)]
  · simp [tms_ix, hi, w.2.2 3 (by decide)]
  · rw [tms_ne (by decide), tms_ne (by decide), w.2.1 p (by omega)]
/-- labels that tell the parts of round t -/
def LBt (D : DF) (t : Nat) (f : Nat → Int32) : Prop := (∀ i j, i < D.1 → j < D.1 → (f i = f j ↔ PRT D t i = PRT D t j)) ∧ (1 ≤ t → ∀ i, i < D.1 → f i = nI (PRT D t i))
theorem rr_isLike {fg : Nat → Int32} {i j t : Nat} (hF : HF na fa D) (hl : LBt D t fg) (hi : i < D.1) (hj : j < D.1) (h1 : PRT D (t + 1) i = PRT D (t + 1) j → Qi 1) (h0 : ¬ PRT D (t + 1) i = PRT D (t + 1) j → Qi 0) : wp_X11_isLike na fa D.1 fg (nI i) (nI j) Qi := by
  obtain ⟨d1, d32, dT, dn, df, dg⟩ := hF
  have L : ∀ (z b : Nat) (v : Int32), 3 - b < z → b ≤ 3 → (v = 1 ∧ PRT D t i = PRT D t j ∧ (∀ s, s < b → PRT D t (D.2.1 (3 * i + s)) = PRT D t (D.2.1 (3 * j + s))) ∨ v = 0 ∧ ¬ PRT D (t + 1) i = PRT D (t + 1) j) → wpl_X11_isLike_19 fa na fg D.1 (nI i) (nI j) Qi z (nI b) v := by
    intro z
    induction z with
    | zero => intro b v hk; exact absurd hk (Nat.not_lt_zero _)
    | succ z ih =>
      intro b v hk hb hV
      refine ⟨fun q => ?_, fun q => ?_⟩
      · rw [show (3 : Int32) = nI 3 from rfl, nI_leI (by omega) (by omega)] at q
        rcases hV with ⟨rfl, e1, e2⟩ | ⟨rfl, e⟩
        · exact ⟨Or.inr rfl, h1 (PRT_s.mpr ⟨e1, fun s hs => e2 s (by omega)⟩)⟩
        · exact ⟨Or.inl rfl, h0 e⟩
      rw [show (3 : Int32) = nI 3 from rfl, nI_leI (by omega) (by omega)] at q
      have li := dT (3 * i + b) (by omega)
      have lj := dT (3 * j + b) (by omega)
      rw [show (4 : Int32) = nI 4 from rfl, s_mul, s_mul, nI_add, nI_add, nI_clamp (by omega), nI_clamp (by omega), df i b hi (by omega), df j b hj (by omega), nI_clamp (by omega), nI_clamp (by omega), nI_1]
      refine ⟨s_in (by omega) (by omega), s_in li (by omega), s_in (by omega) (by omega), s_in lj (by omega), fun w => ?_, fun w => ?_⟩
      · refine ih (b + 1) _ (by omega) (by omega) (Or.inr ⟨?_, fun e => w ((hl.1 _ _ li lj).mpr ((PRT_s.mp e).2 b (by omega)))⟩)
        rcases hV with ⟨rfl, _⟩ | ⟨rfl, _⟩ <;> decide
      · refine ih (b + 1) _ (by omega) (by omega) ?_
        rcases hV with ⟨rfl, e1, e2⟩ | ⟨rfl, e⟩
        · refine Or.inl ⟨by decide, e1, fun s hs => ?_⟩
          by_cases y : s = b
          · rw [y]; exact (hl.1 _ _ li lj).mp w
          · exact e2 s (by omega)
        · exact Or.inr ⟨by decide, e⟩
  have go : ∀ v : Int32, (v = 1 ∧ PRT D t i = PRT D t j ∨ v = 0 ∧ ¬ PRT D (t + 1) i = PRT D (t + 1) j) → ∃ n4x, wpl_X11_isLike_19 fa na fg D.1 (nI i) (nI j) Qi n4x (0 : Int32) v := fun v hV => by
    have g := L 4 0 v (by omega) (by omega) (hV.imp (fun z => ⟨z.1, z.2, fun s hs => absurd hs (Nat.not_lt_zero _)⟩) (fun z => z))
    rw [nI_0] at g
    exact ⟨_, g⟩
  refine ⟨s_in hi (by omega), s_in hj (by omega), fun J hJ => ?_⟩
  rw [nI_clamp (by omega), nI_clamp (by omega)]
  refine ⟨fun z => hJ 0 (go 0 (Or.inr ⟨rfl, fun e => z ((hl.1 _ _ hi hj).mpr (PRT_s.mp e).1)⟩)), fun z => hJ 1 (go 1 (Or.inl ⟨rfl, (hl.1 _ _ hi hj).mp z⟩))⟩
theorem rr_alike {Qa : Nat → (Nat → Int32) → Prop} (hF : HF na fa D) (h : ∀ g : Nat → Int32, (∀ i, i < D.1 → g i = nI (PL D i)) → Qa D.1 g) : wp_X11_alike na fa Qa := by
  have hF' := hF
  obtain ⟨d1, d32, dT, dn, df, dg⟩ := hF'
  have ez : nI na / (4 : Int32) = nI D.1 := by rw [show (4 : Int32) = nI 4 from rfl, s_div (by omega) (by omega) (by omega), dn]; congr 1; omega
  have L56 : ∀ (t j : Nat) (fg fn : Nat → Int32) (v31 v32 v33 : Int32) (nn' : Nat) (K : Int32 → Prop), v31 = nI j → LBt D t fg → j < D.1 → K (nI (PRT D (t + 1) j)) → ∀ (z i : Nat), PRT D (t + 1) j - i < z → i ≤ PRT D (t + 1) j → wpl_X11_alike_56 fa na fg D.1 fn nn' v31 v32 v33 K z (nI i) := by
    intro t j fg fn v31 v32 v33 nn' K ev hl hj hK z
    subst ev
    have hle := PRT_le (D := D) (t + 1) j
    induction z with
    | zero => intro i hk; exact absurd hk (Nat.not_lt_zero _)
    | succ z ih =>
      intro i hk hi
      refine rr_isLike hF hl (by omega) hj (fun e => ⟨fun _ => ?_, fun w => absurd w (by decide)⟩) (fun e => ⟨fun w => absurd rfl w, fun _ => ?_⟩)
      · have := PRT_le (D := D) (t + 1) i
        rw [show i = PRT D (t + 1) j by omega]
        exact hK
      · have ne : i ≠ PRT D (t + 1) j := fun q => e (by rw [q, PRT_id])
        rw [nI_1]
        exact ih (i + 1) (by omega) (by omega)
  have L47 : ∀ (t : Nat) (fg : Nat → Int32) (v24 : Int32) (K : (Nat → Int32) → Prop), LBt D t fg → (∀ fn : Nat → Int32, (∀ i, i < D.1 → fn i = nI (PRT D (t + 1) i)) → K fn) → ∀ (z i : Nat) (fn : Nat → Int32), D.1 - i < z → i ≤ D.1 → (∀ j, j < i → fn j = nI (PRT D (t + 1) j)) → wpl_X11_alike_47 fa na fg D.1 D.1 v24 (nI D.1) K z (nI i) fn := by
    intro t fg v24 K hl hK z
    induction z with
    | zero => intro i fn hk; exact absurd hk (Nat.not_lt_zero _)
    | succ z ih =>
      intro i fn hk hi hfn
      refine ⟨fun q => ?_, fun q => ?_⟩
      · rw [nI_leI (by omega) (by omega)] at q
        exact hK fn (fun j hj => hfn j (by omega))
      rw [nI_leI (by omega) (by omega)] at q
      have g := L56 t i fg fn (nI i) v24 (nI D.1) D.1 (fun (u37 : Int32) => vp_in (nI i) D.1 ∧ (wpl_X11_alike_47 fa na fg D.1 D.1 v24 (nI D.1) K z (nI i + (1 : Int32)) (upd fn (nI i).toNatClampNeg u37))) rfl hl (by omega) ⟨s_in (by omega) (by omega), by
        rw [nI_1, nI_clamp (by omega)]
        refine ih (i + 1) _ (by omega) (by omega) (fun j hj => ?_)
        by_cases e : j = i
        · rw [e, upd_at]
        · rw [upd_ne e]; exact hfn j (by omega)⟩ (PRT D (t + 1) i + 1) 0 (by omega) (Nat.zero_le _)
      rw [nI_0] at g
      exact ⟨_, g⟩
  have L34 : ∀ (z t : Nat) (fg : Nat → Int32), D.1 - t < z → t ≤ D.1 → LBt D t fg → wpl_X11_alike_34 fa na (nI D.1) Qa z (nI t) D.1 fg := by
    intro z
    induction z with
    | zero => intro t fg hk; exact absurd hk (Nat.not_lt_zero _)
    | succ z ih =>
      intro t fg hk ht hl
      refine ⟨fun q => ?_, fun q => ⟨⟨nI_pos (by omega), by rw [nI_clamp (by omega)]; exact d32⟩, ?_⟩⟩
      · rw [nI_leI (by omega) (by omega)] at q
        have e : t = D.1 := by omega
        subst e
        exact h fg (fun i hi => hl.2 d1 i hi)
      rw [nI_leI (by omega) (by omega)] at q
      rw [nI_clamp (by omega)]
      have g := L47 t fg (nI t) (fun (f40 : Nat → Int32) => wpl_X11_alike_34 fa na (nI D.1) Qa z (nI t + (1 : Int32)) D.1 f40) hl (fun fn hfn => by
        rw [nI_1]
        refine ih (t + 1) fn (by omega) (by omega) ⟨fun i j hi hj => ?_, fun _ => hfn⟩
        have b1 := PRT_le (D := D) (t + 1) i
        have b2 := PRT_le (D := D) (t + 1) j
        rw [hfn i hi, hfn j hj, nI_eq (by omega) (by omega)]) (D.1 + 1) 0 (fun _ => 0) (by omega) (Nat.zero_le _) (fun j hj => absurd hj (Nat.not_lt_zero _))
      rw [nI_0] at g
      exact ⟨_, g⟩
  have L11 : ∀ (z i : Nat) (fn : Nat → Int32), D.1 - i < z → i ≤ D.1 → (∀ j, j < i → fn j = bi (D.2.2 j)) → wpl_X11_alike_11 fa na D.1 (nI D.1) (fun (f12 : Nat → Int32) => ∃ n12x, n12x ≤ 33 ∧ wpl_X11_alike_34 fa na (nI D.1) Qa n12x (0 : Int32) D.1 f12) z (nI i) fn := by
    intro z
    induction z with
    | zero => intro i fn hk; exact absurd hk (Nat.not_lt_zero _)
    | succ z ih =>
      intro i fn hk hi hfn
      refine ⟨fun q => ?_, fun q => ?_⟩
      · rw [nI_leI (by omega) (by omega)] at q
        have g := L34 33 0 fn (by omega) (Nat.zero_le _) ⟨fun x y hx hy => by rw [hfn x (by omega), hfn y (by omega), bi_inj, PRT_0], fun z => absurd z (by omega)⟩
        rw [nI_0] at g
        exact ⟨33, Nat.le_refl _, g⟩
      rw [nI_leI (by omega) (by omega)] at q
      rw [show (4 : Int32) = nI 4 from rfl, show (3 : Int32) = nI 3 from rfl, s_mul, nI_add, nI_clamp (by omega), nI_clamp (by omega), dg i (by omega), nI_1]
      refine ⟨s_in (by omega) (by omega), s_in (by omega) (by omega), ih (i + 1) _ (by omega) (by omega) (fun j hj => ?_)⟩
      by_cases e : j = i
      · rw [e, upd_at]
      · rw [upd_ne e]; exact hfn j (by omega)
  have g := L11 (D.1 + 1) 0 (fun _ => 0) (by omega) (Nat.zero_le _) (fun j hj => absurd hj (Nat.not_lt_zero _))
  rw [nI_0] at g
  unfold wp_X11_alike
  rw [ez, nI_clamp (by omega)]
  exact ⟨⟨nI_pos (by omega), d32⟩, _, g⟩
end SRJ
