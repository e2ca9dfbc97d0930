section SIMY
variable {μ ν : TMem} {S : Nat → AM} {a r k t : Int32} {m m' : Nat} {A B : AM} {D D0 D1 D2 D' : DF} {Q : Int32 → TMem → Prop} {X : String → TMem → Prop} {Qi : Int32 → Prop}
theorem aP_cell {i s k : Nat} (h : TBl D) (h32 : D.1 ≤ 32) (hs : s < 3) (hi : i < D.1) : (nn ((aP D).2.2.2 (3 * i + s))).testBit k = true ↔ DW D i s = k := by
  have hd := h.dw hi hs
  show (nn (if 3 * i + s < 3 * D.1 then (1 : Int32) <<< (nI (D.2.1 (3 * i + s)) &&& 31) else 0)).testBit k = true ↔ _
  rw [if_pos (by omega), nn_two _ (show D.2.1 (3 * i + s) < 32 from Nat.lt_of_lt_of_le hd h32), Nat.testBit_two_pow, decide_eq_true_iff]
  exact Iff.rfl
/-- the least of the least: the same -/
theorem again_same (h1 : TBl D) (h2 : D.1 ≤ 32) (h3 : CAN D) (h4 : RED D) : ∃ D3, LSM (aP D) = some D3 ∧ dSm D3 D := by
  obtain ⟨L, T, c1, c2, c3, c4⟩ := h3
  have p2 : ∀ a b : Nat, 2 ^ a = 2 ^ b → a = b := fun a b e => by
    have := congrArg (fun z => z.testBit a) e
    simp only [Nat.testBit_two_pow, decide_true] at this
    exact (decide_eq_true_iff.mp this.symm).symm
  -- the sets are those of one state
  rcases EX_lock (R := fun b Y => b < D.1 ∧ Y = 2 ^ b) (f1 := DW D) (f2 := RA9 (aP D)) (lim := 32) (x1 := 0) (x2 := nn (aP D).2.1) (fun a b a' b' ⟨_, ea⟩ ⟨_, ea'⟩ => ⟨fun e => by rw [ea, ea', e], fun e => p2 _ _ (by rw [← ea, ← ea', e])⟩) (fun a b s hs ⟨hb, ea⟩ => ⟨h1.dw hb hs, s_ext (fun i => by
      rw [Bool.eq_iff_iff, RA9_bit, Nat.testBit_two_pow, decide_eq_true_iff, ea]
      constructor
      · rintro ⟨x, hx, e1, e2⟩
        have hx' : x < D.1 := hx
        rw [Nat.testBit_two_pow, decide_eq_true_iff] at e1
        subst e1
        exact (aP_cell h1 h2 hs hx').mp e2
      · intro e
        exact ⟨a, hb, by rw [Nat.testBit_two_pow, decide_eq_true_iff], (aP_cell h1 h2 hs hb).mpr e⟩)⟩) ⟨h1.1, show nn 1 = 2 ^ 0 from by decide⟩ with ⟨e, _⟩ | ⟨L1, L2, T', e1, e2, hp⟩
  · rw [c1] at e; cases e
  rw [c1] at e1
  cases e1
  obtain ⟨D2, hD2⟩ : ∃ D2, D2 = DFo L2 T (fun Y => decide (Y &&& nn (aP D).2.2.1 ≠ 0)) := ⟨_, rfl⟩
  have eo : OWM (aP D) = some D2 := by
    show (EX 32 (RA9 (aP D)) (fun _ => false) (nn (aP D).2.1)).map _ = _
    rw [e2, hD2]
    rfl
  have n2 : D2.1 = D.1 := by rw [hD2, ← c2]; exact hp.1.symm
  have t2 : D2.2.1 = D.2.1 := by rw [hD2, c4]; rfl
  have g2 : ∀ i, i < D.1 → D2.2.2 i = D.2.2 i := fun i hi => by
    obtain ⟨_, y2⟩ := hp.2 i (by omega)
    rw [c3 i hi] at y2
    have bit : ∀ j, (nn (aP D).2.2.1).testBit j = (decide (j < D.1) && D.2.2 j) := fun j => gmk_bit D.1 h2 j
    rw [hD2]
    show decide (L2.getD i 0 &&& nn (aP D).2.2.1 ≠ 0) = D.2.2 i
    rw [y2, Bool.eq_iff_iff, decide_eq_true_iff, land_ne]
    constructor
    · rintro ⟨j, e1, e2⟩
      rw [Nat.testBit_two_pow, decide_eq_true_iff] at e1
      subst e1
      rw [bit, decide_eq_true hi, Bool.true_and] at e2
      exact e2
    · intro e
      exact ⟨i, by rw [Nat.testBit_two_pow, decide_eq_true_iff], by rw [bit, decide_eq_true hi, Bool.true_and]; exact e⟩
  have w2 : DW D2 = DW D := by funext x s; unfold DW; rw [t2]
  have tb2 : TBl D2 := ⟨by rw [n2]; exact h1.1, fun j hj => by rw [n2] at hj ⊢; rw [t2]; exact h1.2 j hj⟩
  have ls2 : ∀ u i, SG u → i < D.1 → (LSs D2 i u ↔ LSs D i u) := fun u i hu hi => by
    unfold LSs
    rw [w2, g2 _ (h1.run u i hu hi)]
  have pl : ∀ i, i < D.1 → PL D2 i = i := fun i hi => by
    have hi2 : i < D2.1 := by rw [n2]; exact hi
    have hp2 : PL D2 i < D.1 := by rw [← n2]; exact PL_lt hi2
    exact h4 _ _ hp2 hi (fun u hu => by rw [← ls2 u _ hu hp2, ← ls2 u i hu hi]; exact LS_PLid tb2 hi2 hu)
  rcases EX_lock (R := fun a b => a = b ∧ a < D.1) (f1 := DW D) (f2 := fun l s => PL D2 (D2.2.1 (3 * l + s))) (lim := 32) (x1 := 0) (x2 := PL D2 0) (fun a b a' b' ⟨ea, _⟩ ⟨ea', _⟩ => by rw [ea, ea']) (fun a b s hs ⟨ea, ha⟩ => by
      subst ea
      have hd := h1.dw ha hs
      refine ⟨?_, hd⟩
      show DW D a s = PL D2 (DW D2 a s)
      rw [w2, pl _ hd]) ⟨(pl 0 h1.1).symm, h1.1⟩ with ⟨e, _⟩ | ⟨L1', L3, T3, e1', e3, hp3⟩
  · rw [c1] at e; cases e
  rw [c1] at e1'
  cases e1'
  refine ⟨DFo L3 T D2.2.2, ?_, ?_⟩
  · rw [LSM, eo]
    show LSD D2 = _
    rw [LSD, e3]
    rfl
  · have n3 : L3.length = D.1 := by rw [← hp3.1]; exact c2
    refine ⟨n3, fun i hi => ?_, fun j hj => by rw [c4]; rfl⟩
    have hi' : i < L3.length := hi
    have y := (hp3.2 i (by omega)).1
    rw [c3 i (by omega)] at y
    show D2.2.2 (L3.getD i 0) = D.2.2 i
    rw [← y]
    exact g2 i (by omega)
/-! words by their codes -/
def digs : Nat → Nat → List Nat
  | 0, _ => []
  | l + 1, w => w % 3 :: digs l (w / 3)
theorem digs_sg : ∀ l w, SG (digs l w) := by
  intro l
  induction l with
  | zero => intro w x hx; exact nomatch hx
  | succ l ih =>
    intro w x hx
    rcases List.mem_cons.mp hx with e | e
    · rw [e]; exact Nat.mod_lt _ (by decide)
    · exact ih _ x e
theorem SAf_digs {f : Nat → Nat → Nat} : ∀ l w x, SAf f l w x = DRn f x (digs l w) := by
  intro l
  induction l with
  | zero => intro w x; rfl
  | succ l ih => intro w x; exact ih _ _
theorem tk_eq (h : LSM A = some D) (l w : Nat) : bi (D.2.2 (SAf (DW D) l w 0)) = TKv A l w := by
  obtain ⟨_, _, _, _, h5⟩ := LSM_LS h
  have g := h5 (digs l w) (digs_sg l w)
  rw [← LA_acc, ← SAf_digs] at g
  unfold LSs at g
  rw [← SAf_digs] at g
  rw [TKv]
  by_cases e : SAf (RA9 A) l w (nn A.2.1) &&& nn A.2.2.1 = 0
  · rw [if_pos e]
    cases e9 : D.2.2 (SAf (DW D) l w 0) with
    | false => rfl
    | true => exact absurd e (g.mp e9)
  · rw [if_neg e, g.mpr e]
    rfl
theorem e_takingSame {k1 : Nat} (hM : HM μ k1 A) (h32 : A.1 ≤ 32) (hr : 3 * A.1 ≤ tl (k1 + 1)) (hP : HP μ 57 D) (hL : LSM A = some D) (h : Qi 1) : wp_X9_isTakingTheSame k1 μ Qi := by
  have tb := (LSM_LS hL).1
  have L15 : ∀ (l : Nat) (K : Prop), l ≤ 2 → K → ∀ (nf i : Nat), 3 ^ l - i < nf → i ≤ 3 ^ l → wpl_X9_isTakingTheSame_15 k1 μ (nI (3 ^ l)) (nI l) K Qi nf (nI i) := by
    intro l K hl hK
    have p3 := (p3_le (l := l) (by omega)).2
    generalize 3 ^ l = N at *
    intro nf
    induction nf with
    | zero => intro i hk; exact absurd hk (Nat.not_lt_zero _)
    | succ nf ih =>
      intro i hk hi
      refine ⟨fun c => hK, fun c => ?_⟩
      rw [nI_leI (by omega) (by omega)] at c
      have hx : SAf (DW D) l i 0 < D.1 := by rw [SAf_digs]; exact tb.run _ 0 (digs_sg l i) tb.1
      refine e_stateAfter rfl hP (by omega) (by omega) (e_goal hP hx (e_isTaking hM h32 hr (by omega) (by omega) ⟨fun _ => ?_, fun z => absurd (tk_eq hL l i) z⟩))
      rw [nI_1]
      exact ih (i + 1) (by omega) (by omega)
  have L2 : ∀ (nf l : Nat), 3 - l < nf → l ≤ 3 → wpl_X9_isTakingTheSame_2 k1 μ Qi nf (nI l) := by
    intro nf
    induction nf with
    | zero => intro l hk; exact absurd hk (Nat.not_lt_zero _)
    | succ nf ih =>
      intro l hk hl
      refine ⟨fun _ => h, fun c => ?_⟩
      rw [show (2 : Int32) = nI 2 from rfl, nI_ltI (by omega) (by omega)] at c
      refine e_codes (by omega) ?_
      have g := L15 l (wpl_X9_isTakingTheSame_2 k1 μ Qi nf (nI l + (1 : Int32))) (by omega) (by rw [nI_1]; exact ih (l + 1) (by omega) (by omega)) (3 ^ l + 1) 0 (Nat.lt_succ_of_le (Nat.sub_le _ _)) (Nat.zero_le _)
      rw [nI_0] at g
      exact ⟨_, g⟩
  have g := L2 4 0 (by omega) (by omega)
  rw [nI_0] at g
  exact ⟨_, g⟩
theorem dSm.rf : dSm D D := ⟨rfl, fun _ _ => rfl, fun _ _ => rfl⟩
theorem HP.fh {μ9 : TMem} (h : HP μ 57 D) (f : FH 51 μ μ9) : HP μ9 57 D := h.same (f 57 (by decide) (by decide) (by decide) (by decide) (by decide) (by decide) (by decide) (by decide) (by decide) (by decide) (by decide) (by decide) (by decide) (by decide)) (f 58 (by decide) (by decide) (by decide) (by decide) (by decide) (by decide) (by decide) (by decide) (by decide) (by decide) (by decide) (by decide) (by decide) (by decide))
theorem ee_isSound (hc : CSt μ S a r k) (hv : AVs S) (hok : ∀ μ9, CSt μ9 S a r k → Q 1 μ9) : wp_X9_isSound μ Q X := by
  refine e_mach (fun m hm em => ?_) (fun z => absurd (show M1 0 from ⟨by decide, by decide⟩) z)
  have hA := hv m hm
  have v7 := hA.2.1
  have tm := tlm hm
  have cb : CBd (S m) := ⟨by omega, hA.2.2.2.2.1⟩
  have f0 : FNV (S m) 0 = LSM (S m) := by rw [FNV, if_neg (by decide), if_neg (by decide)]
  have f1 : FNV (S m) 1 = LSM (S m) := by rw [FNV, if_neg (by decide), if_neg (by decide)]
  have f2 : FNV (S m) 2 = TWD (S m) := by rw [FNV, if_neg (by decide), if_pos rfl]
  refine e_makeByH (kdm hm) (m31 hm) (k2 := 57) rfl (by decide) (hc.1 m hm) (by omega) (by omega) (fun D μ3 e p3 z3 => ⟨fun _ => ?_, fun q => absurd q (by decide)⟩) (fun e μ3 z3 => ⟨fun q => absurd rfl q, fun _ => hok μ3 (hc.keep (z3.zf rfl))⟩)
  rw [f0] at e
  have c3 := hc.keep (z3.zf rfl)
  obtain ⟨l1, l2, l3, l4, l5⟩ := LSM_LS e
  refine e_makeByH (kdm hm) (m31 hm) (k2 := 51) rfl (by decide) (c3.1 m hm) (by omega) (by omega) (fun D' μ6 e' p6 z6 => ⟨fun q => absurd q (by decide), fun _ => ?_⟩) (fun e' μ6 z6 => absurd (by rw [← e', f1, e]) (fun q : (none : Option DF) = some D => nomatch q))
  rw [f1, e] at e'
  cases e'
  have c6 := c3.keep (z6.zf rfl)
  have q6 := p3.fh z6
  refine e_dSame rfl rfl p6 q6 (fun _ => ⟨fun _ => ?_, fun q => absurd q (by decide)⟩) (fun w => absurd dSm.rf w)
  -- what follows behind turning
  have cont : ∀ μ13 : TMem, CSt μ13 S a r k → HP μ13 57 D → wp_X2_becomePlain 12 57 μ13 (fun (μ16 : TMem) => wp_X3_makeBy 12 51 μ16 (0 : Int32) (fun (r18 : Int32) (μ17 : TMem) => (r18 = 0 → (Q (0 : Int32) μ17)) ∧ (¬ r18 = 0 → (wp_X5_isSameAs 51 57 μ17 (fun (r20 : Int32) => (¬ r20 = 0 → (wp_X9_isTakingTheSame (2 + 2 * m) μ17 (fun (r24 : Int32) => isB r24 ∧ Q r24 μ17))) ∧ (r20 = 0 → (Q (0 : Int32) μ17))))))) := fun μ13 c13 p13 => by
    refine e_becomePlain (k0 := 12) (k1 := 57) rfl rfl p13 (show 3 * D.1 ≤ 96 by omega) (fun μ16 m16 f16 => ?_)
    have c16 : CSt μ16 S a r k := c13.keep ⟨fun q hq => f16 q (by omega) (by omega), fun g i => by rw [f16 43 (by decide) (by decide)]; exact g i⟩
    have p16 : HP μ16 57 D := p13.same (f16 57 (by decide) (by decide)) (f16 58 (by decide) (by decide))
    obtain ⟨D3, e3, s3⟩ := again_same l1 l2 l3 l4
    have f9 : FNV (aP D) 0 = LSM (aP D) := by rw [FNV, if_neg (by decide), if_neg (by decide)]
    refine e_makeByH (k1 := 12) rfl (by decide) (k2 := 51) rfl (by decide) m16 l2 (show 3 * D.1 ≤ 96 by omega) (fun D9 μ17 e9 p17 z17 => ⟨fun q => absurd q (by decide), fun _ => ?_⟩) (fun e9 μ17 z17 => absurd (by rw [← e9, f9, e3]) (fun q : (none : Option DF) = some D3 => nomatch q))
    rw [f9, e3] at e9
    cases e9
    have c17 := c16.keep (z17.zf rfl)
    have q17 := p16.fh z17
    exact e_dSame rfl rfl p17 q17 (fun _ => ⟨fun _ => e_takingSame (c17.1 m hm) (by omega) (by omega) q17 e ⟨Or.inr rfl, hok μ17 c17⟩, fun q => absurd q (by decide)⟩) (fun w => absurd s3 w)
  refine e_makeByH (kdm hm) (m31 hm) (k2 := 51) rfl (by decide) (c6.1 m hm) (by omega) (by omega) (fun D' μ13 e' p13 z13 => ⟨fun q => absurd q (by decide), fun _ => ?_⟩) (fun e' μ13 z13 => ⟨fun _ => cont μ13 (c6.keep (z13.zf rfl)) (q6.fh z13), fun q => absurd rfl q⟩)
  rw [f2] at e'
  exact e_dSame rfl rfl p13 (q6.fh z13) (fun _ => ⟨fun _ => cont μ13 (c6.keep (z13.zf rfl)) (q6.fh z13), fun q => absurd q (by decide)⟩) (fun w => absurd (TWD_same cb e e') w)
theorem gs_isSound (h : SIM μ ν) : wp_X9_isSound μ (fun r μ9 => wp_X11_isSound ν (fun b ν9 => SIM μ9 ν9 ∧ r = b)) (fun _ _ => False) := by
  obtain ⟨S, a, r, k, t, hv, hc, hr⟩ := h
  exact ee_isSound hc hv (fun μ9 c9 => ⟨⟨S, a, r, k, 0, hv, c9, hr.thr 0⟩, rfl⟩)
end SIMY
