section SIMZ
variable {μ ν : TMem} {S : Nat → AM} {a r k t : Int32} {a1 a2 a3 a4 a5 : Int32} {m m' : Nat} {A B : AM} {D D1 D2 : DF} {Q : Int32 → TMem → Prop} {X : String → TMem → Prop} {Qi : Int32 → Prop} {Qo : Option AI → Prop} {P : PP} {n : Nat}
/-- made by turning round twice -/
def TWD (A : AM) : Option DF := (OWM (aT A)).bind fun D => OWM (aT (aP D))
/-- what is made, each way -/
def FNV (A : AM) (h : Int32) : Option DF := if h = 3 then OWM A else if h = 2 then TWD A else LSM A
theorem e_turning {k1 k2 : Nat} (hk1 : kd k1 = 2) (h31 : k1 ≠ 31) (hk : kd k2 = 5) (hM : HM μ k1 A) (h32 : A.1 ≤ 32) (ht : 3 * A.1 ≤ tl (k1 + 1)) (h1 : ∀ (D : DF) (μ9 : TMem), TWD A = some D → HP μ9 k2 D → (∀ q, q ≠ 17 → q ≠ 29 → q ≠ 30 → q ≠ 31 → q ≠ 32 → q ≠ 33 → q ≠ 34 → q ≠ k2 → q ≠ k2 + 1 → μ9 q = μ q) → Q 1 μ9) (h0 : TWD A = none → ∀ μ9, (∀ q, q ≠ 17 → q ≠ 29 → q ≠ 30 → q ≠ 31 → q ≠ 32 → q ≠ 33 → q ≠ 34 → q ≠ k2 → q ≠ k2 + 1 → μ9 q = μ q) → Q 0 μ9) : wp_X3_makeByTurning k1 k2 μ Q := by
  have t32 : tl 32 = 96 := rfl
  have t30 : tl 30 = 96 := rfl
  refine e_becomeRound (k0 := 31) rfl hk1 (fun e => h31 e.symm) hM h32 (show _ ≤ 96 by omega) ht (fun μ1 m1 f1 => ?_)
  refine e_oneWayA (k1 := 31) (k2 := 33) rfl rfl m1 h32 (show 3 * A.1 ≤ 96 by omega) (fun D μ2 e2 p2 f2 => ⟨fun _ => ?_, fun q => absurd q (by decide)⟩) (fun e2 μ2 f2 => ⟨fun q => absurd rfl q, fun _ => h0 (by rw [TWD, e2]; rfl) μ2 (fun q q1 q2 q3 q4 q5 q6 q7 q8 q9 => (f2 q q1 q6 q7).trans (f1 q q4 q5))⟩)
  have d32 := p2.2.1
  refine e_becomePlain (k0 := 29) (k1 := 33) rfl rfl p2 (show _ ≤ 96 by omega) (fun μ5 m5 f5 => ?_)
  refine e_becomeRound (k0 := 31) (k1 := 29) rfl rfl (by decide) m5 d32 (show 3 * D.1 ≤ 96 by omega) (show 3 * D.1 ≤ 96 by omega) (fun μ6 m6 f6 => ?_)
  have fr : ∀ {μ9 : TMem}, F17 k2 μ6 μ9 → ∀ q, q ≠ 17 → q ≠ 29 → q ≠ 30 → q ≠ 31 → q ≠ 32 → q ≠ 33 → q ≠ 34 → q ≠ k2 → q ≠ k2 + 1 → μ9 q = μ q := fun f9 q q1 q2 q3 q4 q5 q6 q7 q8 q9 => ((((f9 q q1 q8 q9).trans (f6 q q4 q5)).trans (f5 q q2 q3)).trans (f2 q q1 q6 q7)).trans (f1 q q4 q5)
  exact e_oneWayA (k1 := 31) rfl hk m6 d32 (show 3 * D.1 ≤ 96 by omega) (fun D' μ9 e9 p9 f9 => ⟨Or.inr rfl, h1 D' μ9 (by rw [TWD, e2]; exact e9) p9 (fr f9)⟩) (fun e9 μ9 f9 => ⟨Or.inl rfl, h0 (by rw [TWD, e2]; exact e9) μ9 (fr f9)⟩)
/-- what making leaves as it was, any way -/
def FH (k2 : Nat) (μ μ9 : TMem) : Prop := ∀ q, q ≠ 17 → q ≠ 19 → q ≠ 21 → q ≠ 24 → q ≠ 26 → q ≠ 28 → q ≠ 29 → q ≠ 30 → q ≠ 31 → q ≠ 32 → q ≠ 33 → q ≠ 34 → q ≠ k2 → q ≠ k2 + 1 → μ9 q = μ q
theorem FH.zf {k2 : Nat} {μ9 : TMem} (hk : kd k2 = 5) (h : FH k2 μ μ9) : ZF μ μ9 := by
  have q := kd5 hk
  refine ⟨fun k hk => h k (by omega) (by omega) (by omega) (by omega) (by omega) (by omega) (by omega) (by omega) (by omega) (by omega) (by omega) (by omega) (by omega) (by omega), fun g i => ?_⟩
  rw [h 43 (by omega) (by omega) (by omega) (by omega) (by omega) (by omega) (by omega) (by omega) (by omega) (by omega) (by omega) (by omega) (by omega) (by omega)]
  exact g i
theorem e_makeByH {k1 k2 : Nat} {b : Int32} (hk1 : kd k1 = 2) (h31 : k1 ≠ 31) (hk : kd k2 = 5) (h33 : k2 ≠ 33) (hM : HM μ k1 A) (h32 : A.1 ≤ 32) (ht : 3 * A.1 ≤ tl (k1 + 1)) (h1 : ∀ (D : DF) (μ9 : TMem), FNV A b = some D → HP μ9 k2 D → FH k2 μ μ9 → Q 1 μ9) (h0 : FNV A b = none → ∀ μ9, FH k2 μ μ9 → Q 0 μ9) : wp_X3_makeBy k1 k2 μ b Q := by
  refine ⟨fun n3 => ⟨fun n2 => ?_, fun e2 => ?_⟩, fun e3 => ?_⟩
  · have ea : FNV A b = LSM A := by rw [FNV, if_neg n3, if_neg n2]
    rw [ea] at h1 h0
    refine e_oneWayA (k2 := 33) hk1 rfl hM h32 ht (fun D μ3 e p f => ⟨fun _ J hJ => ?_, fun z => absurd z (by decide)⟩) (fun e μ9 f => ⟨fun z => absurd rfl z, fun _ => h0 (by rw [LSM, e]; rfl) μ9 (fun q q1 q2 q3 q4 q5 q6 q7 q8 q9 q10 q11 q12 q13 q14 => f q q1 q11 q12)⟩)
    have go : ∀ μ7 : TMem, (∀ i, i < D.1 → μ7 24 i = nI (PL D i)) → (∀ q, q ≠ 24 → q ≠ 26 → q ≠ 28 → μ7 q = μ3 q) → J μ7 := fun μ7 hp hf => hJ μ7 (e_makeGroups (k1 := 33) rfl hk (fun q => h33 q.symm) (p.same (hf 33 (by decide) (by decide) (by decide)) (hf 34 (by decide) (by decide) (by decide))) hp (fun D' μ9 hD hH hF => h1 D' μ9 (by rw [LSM, e]; exact hD) hH (fun q q1 q2 q3 q4 q5 q6 q7 q8 q9 q10 q11 q12 q13 q14 => ((hF q q2 q3 q4 q5 q13 q14).trans (hf q q4 q5 q6)).trans (f q q1 q11 q12))))
    exact ⟨fun _ => e_findByParting (k := 33) rfl p (fun μ7 hp hf => go μ7 hp (fun q q4 q5 _ => hf q q4 q5)), fun _ => e_findByPairs (k := 33) rfl p (fun μ7 hp hf => go μ7 hp (fun q q4 _ q6 => hf q q4 q6))⟩
  · have ea : FNV A b = TWD A := by rw [FNV, if_neg n3, if_pos e2]
    rw [ea] at h1 h0
    exact e_turning hk1 h31 hk hM h32 ht (fun D μ9 e p f => ⟨Or.inr rfl, h1 D μ9 e p (fun q q1 q2 q3 q4 q5 q6 q7 q8 q9 q10 q11 q12 q13 q14 => f q q1 q7 q8 q9 q10 q11 q12 q13 q14)⟩) (fun e μ9 f => ⟨Or.inl rfl, h0 e μ9 (fun q q1 q2 q3 q4 q5 q6 q7 q8 q9 q10 q11 q12 q13 q14 => f q q1 q7 q8 q9 q10 q11 q12 q13 q14)⟩)
  · have ea : FNV A b = OWM A := by rw [FNV, if_pos e3]
    rw [ea] at h1 h0
    exact e_oneWayA hk1 hk hM h32 ht (fun D μ9 e p f => ⟨Or.inr rfl, h1 D μ9 e p (fun q q1 q2 q3 q4 q5 q6 q7 q8 q9 q10 q11 q12 q13 q14 => f q q1 q13 q14)⟩) (fun e μ9 f => ⟨Or.inl rfl, h0 e μ9 (fun q q1 q2 q3 q4 q5 q6 q7 q8 q9 q10 q11 q12 q13 q14 => f q q1 q13 q14)⟩)
/-- turned round, the reference's way and the class's -/
theorem fX_aT {c : Nat → Nat} {d : Nat → Int32} {Y s : Nat} (hn : n ≤ 32) (hs : s < 3) (h : ∀ j, j < 3 * n → c j = nn (d j)) : fX n c true Y s = RC n (fun j => nn (if j < 3 * n then SRg d (j / 3) (j % 3) n else 0)) Y s := by
  refine s_ext (fun i => ?_)
  rw [fX, bitsN_bit, RC, RCg_bit, NX]
  have cell : ∀ f, f < n → nn (if 3 * f + s < 3 * n then SRg d ((3 * f + s) / 3) ((3 * f + s) % 3) n else 0) = nn (SRg d f s n) := fun f hf => by
    rw [if_pos (by omega), show (3 * f + s) / 3 = f by omega, show (3 * f + s) % 3 = s by omega]
  by_cases e : i < n
  · rw [decide_eq_true e, Bool.true_and]
    refine any_congr (fun f hf => ?_)
    rw [cell f hf, SRg_bit n hn, decide_eq_true e, Bool.true_and, cnX, ← h _ (by omega)]
    simp
  · rw [decide_eq_false e, Bool.false_and]
    refine (any_false (fun f hf => ?_)).symm
    rw [cell f hf, SRg_bit n hn, decide_eq_false e, Bool.false_and, Bool.and_false]
theorem OWX_aT {c : Nat → Nat} (h32 : A.1 ≤ 32) (h : ∀ j, j < 3 * A.1 → c j = nn (A.2.2.2 j)) : OWX A.1 c true (nn A.2.1) (nn A.2.2.1) = OWM (aT A) := by
  rw [OWX, OWM, OWD, EX, EX]
  show ((EXs 32 (fX A.1 c true) (fun _ => false) (3 * 32 + 1) [nn A.2.2.1] []).map _ : Option DF) = (EXs 32 (RC A.1 (fun j => nn (if j < 3 * A.1 then SRg A.2.2.2 (j / 3) (j % 3) A.1 else 0))) (fun _ => false) (3 * 32 + 1) [nn A.2.2.1] []).map _
  rw [EXs_congr (f := fX A.1 c true) (f' := RC A.1 (fun j => nn (if j < 3 * A.1 then SRg A.2.2.2 (j / 3) (j % 3) A.1 else 0))) (fun x s hs => fX_aT h32 hs h)]
  rfl
theorem rr_tt {nf : Nat} {f : Nat → Int32} {K : Int64 → (Nat → Int64) → Prop} (hF : HF nf f D) (h : ∀ (u : Int64) (g : Nat → Int64), ll u = nn (gmk D.2.2 D.1) → (∀ j, j < 3 * D.1 → ll (g j) = 2 ^ D.2.1 j) → K u g) : ∃ z, wpl_X11_turnedTwice_54 ν (3 * D.1) f nf (nI D.1) K z 0 0 (fun _ => 0) := by
  obtain ⟨b1, b2, b3, b4, b5, b6⟩ := hF
  have L63 : ∀ (x : Nat) (v24 : Int64) (v25 : Int32) (KK : (Nat → Int64) → Prop), x < D.1 → (∀ g : Nat → Int64, (∀ j, j < 3 * x + 3 → ll (g j) = 2 ^ D.2.1 j) → KK g) → ∀ (z s : Nat) (g : Nat → Int64), 3 - s < z → s ≤ 3 → (∀ j, j < 3 * x + s → ll (g j) = 2 ^ D.2.1 j) → wpl_X11_turnedTwice_63 ν (3 * D.1) f nf (nI x) v24 v25 KK z (nI s) g := by
    intro x v24 v25 KK hx hK z
    induction z with
    | zero => intro s g hk; exact absurd hk (Nat.not_lt_zero _)
    | succ z ih =>
      intro s g hk hs hg
      refine ⟨fun c => ?_, fun c => ?_⟩
      · rw [show (3 : Int32) = nI 3 from rfl, nI_leI (by omega) (by omega)] at c
        exact hK g (fun j hj => hg j (by omega))
      rw [show (3 : Int32) = nI 3 from rfl, nI_leI (by omega) (by omega)] at c
      have hd := b3 (3 * x + s) (by omega)
      rw [show (4 : Int32) = nI 4 from rfl, show (3 : Int32) = nI 3 from rfl, s_mul, s_mul, nI_add, nI_add, nI_clamp (by omega), nI_clamp (by omega), b5 x s hx (by omega), nI_1]
      refine ⟨s_in (by omega) (by omega), s_in (by omega) (by omega), ih (s + 1) _ (by omega) (by omega) (fun j hj => ?_)⟩
      by_cases e : j = 3 * x + s
      · rw [e, pk_uLs, ll_two _ (by omega)]
      · rw [pk_uLn e]; exact hg j (by omega)
  have L54 : ∀ (z x : Nat) (u : Int64) (g : Nat → Int64), D.1 - x < z → x ≤ D.1 → (∀ i, (ll u).testBit i = (decide (i < x) && D.2.2 i)) → (∀ j, j < 3 * x → ll (g j) = 2 ^ D.2.1 j) → wpl_X11_turnedTwice_54 ν (3 * D.1) f nf (nI D.1) K z (nI x) u g := by
    intro z
    induction z with
    | zero => intro x u g hk; exact absurd hk (Nat.not_lt_zero _)
    | succ z ih =>
      intro x u g hk hx hu hg
      refine ⟨fun c => ?_, fun c => ?_⟩
      · rw [nI_leI (by omega) (by omega)] at c
        have e : x = D.1 := by omega
        rw [e] at hu hg
        exact h u g (s_ext (fun i => by rw [hu, gmk_bit D.1 b2 i])) hg
      rw [nI_leI (by omega) (by omega)] at c
      have hx' : x < D.1 := by omega
      have g9 := L63 x u (nI D.1) (fun (f31 : Nat → Int64) => vp_in (((4 : Int32) * nI x) + (3 : Int32)) nf ∧ ((¬ (f (((4 : Int32) * nI x) + (3 : Int32)).toNatClampNeg) = (1 : Int32) → (wpl_X11_turnedTwice_54 ν (3 * D.1) f nf (nI D.1) K z (nI x + (1 : Int32)) u f31)) ∧ ((f (((4 : Int32) * nI x) + (3 : Int32)).toNatClampNeg) = (1 : Int32) → (wpl_X11_turnedTwice_54 ν (3 * D.1) f nf (nI D.1) K z (nI x + (1 : Int32)) (u ||| ((1 : Int64) <<< ((nI x).toInt64 &&& 63))) f31)))) hx' (fun g' hg' => by
        have p4 : (4 : Int32) * nI x + (3 : Int32) = nI (4 * x + 3) := by rw [show (4 : Int32) = nI 4 from rfl, show (3 : Int32) = nI 3 from rfl, s_mul, nI_add]
        show vp_in (((4 : Int32) * nI x) + (3 : Int32)) nf ∧ _
        rw [p4, nI_clamp (by omega), b6 x hx', nI_1]
        refine ⟨s_in (by omega) (by omega), fun q => ih (x + 1) u g' (by omega) (by omega) (fun i => ?_) (fun j hj => hg' j (by omega)), fun q => ih (x + 1) _ g' (by omega) (by omega) (fun i => ?_) (fun j hj => hg' j (by omega))⟩
        · rw [hu]
          by_cases e : i = x
          · have : D.2.2 x = false := by
              cases e9 : D.2.2 x with
              | false => rfl
              | true => rw [e9] at q; exact absurd rfl q
            rw [e, this, Bool.and_false, Bool.and_false]
          · rw [show decide (i < x + 1) = decide (i < x) from decide_eq_decide.mpr (by omega)]
        · rw [ll_bit (by omega), hu]
          have ht : D.2.2 x = true := by
            cases e9 : D.2.2 x with
            | true => rfl
            | false => rw [e9] at q; exact absurd q (by decide)
          by_cases e : i = x
          · rw [e, ht, decide_eq_true rfl, Bool.or_true, decide_eq_true (by omega)]; rfl
          · rw [decide_eq_false (show ¬ x = i from fun w => e w.symm), Bool.or_false, show decide (i < x + 1) = decide (i < x) from decide_eq_decide.mpr (by omega)]) 4 0 g (by omega) (by omega) (fun j hj => hg j (by omega))
      rw [nI_0] at g9
      exact ⟨_, g9⟩
  have g := L54 (D.1 + 1) 0 0 (fun _ => 0) (by omega) (Nat.zero_le _) (fun i => by rw [ll_0, Nat.zero_testBit, decide_eq_false (by omega)]; rfl) (fun j hj => absurd hj (by omega))
  rw [nI_0] at g
  exact ⟨_, g⟩
theorem rr_found2 (hm : m < 4) (hR : HR ν m A) (hv : AV A) (h1 : ∀ (D : DF) (nf : Nat) (g : Nat → Int32), TWD A = some D → HF nf g D → Qo (some (nf, g))) (h0 : TWD A = none → Qo none) : wp_X11_found ν (nI m) 2 Qo := by
  refine ⟨fun _ => ⟨fun z => absurd rfl z, fun _ => ?_⟩, fun z => absurd z (by decide)⟩
  obtain ⟨v1, v7, vs, vg, vc, vz⟩ := hv
  refine rr_arrowsAll hm hR (fun f hf => ⟨s_in hm (by omega), s_in hm (by omega), s_in hm (by omega), ?_⟩)
  rw [nI_clamp (by omega), hR.1, hR.2.1, hR.2.2.1]
  have q1 := p7 vs v7
  have q2 := p7 vg v7
  have eo : OWX A.1 (fun j => ll (f j)) true (ll A.2.1.toInt64) (ll A.2.2.1.toInt64) = OWM (aT A) := by
    rw [ll_toInt64 (by omega), ll_toInt64 (by omega)]
    exact OWX_aT (by omega) (fun j hj => by have := p7 (vc j hj) v7; rw [hf j (by omega), ll_toInt64 (by omega)])
  refine rr_oneWay (tr := true) (by omega) (by omega) ⟨fun z => absurd z (by decide), fun z => by cases z⟩ (fun D nf g e hF => ⟨(fun z => nomatch z), fun n10 f11 z => ?_⟩) (fun e => ⟨fun _ => ⟨fun _ => h0 (by rw [TWD, ← eo, e]; rfl), fun _ _ z => nomatch z⟩, fun _ _ z => nomatch z⟩)
  cases z
  rw [eo] at e
  have d2 := hF.2.1
  have d3 := hF.2.2.1
  rw [n4_div hF, show (3 : Int32) = nI 3 from rfl, s_mul, nI_clamp (by omega)]
  refine ⟨⟨nI_pos (by omega), by omega⟩, rr_tt hF (fun u g9 hu hg => ?_)⟩
  have eo2 : OWX D.1 (fun j => ll (g9 j)) true (ll 1) (ll u) = OWM (aT (aP D)) := by
    have := OWX_aT (A := aP D) (c := fun j => ll (g9 j)) d2 (fun j hj => by
      have hj' : j < 3 * D.1 := hj
      have := d3 j hj'
      show ll (g9 j) = nn (if j < 3 * D.1 then (1 : Int32) <<< (nI (D.2.1 j) &&& 31) else 0)
      rw [hg j hj', if_pos hj', nn_two _ (by omega)])
    rw [← this, hu, show ll 1 = nn 1 from by decide]
    rfl
  refine rr_oneWay (tr := true) (by omega) (by omega) ⟨fun z => absurd z (by decide), fun z => by cases z⟩ (fun D' nf' g' e' hF' => ⟨(fun z => nomatch z), fun n38 f39 z => ⟨(fun z => nomatch z), fun n20 f21 z2 => ?_⟩⟩) (fun e' => ⟨fun _ => ⟨fun _ => h0 ?_, fun _ _ z => nomatch z⟩, fun _ _ z => nomatch z⟩)
  · cases z
    cases z2
    exact h1 D' _ _ (by rw [TWD, e, ← e', eo2]; rfl) hF'
  · rw [TWD, e, ← e', eo2]; rfl
theorem rr_foundH {b : Int32} (hm : m < 4) (hR : HR ν m A) (hv : AV A) (h1 : ∀ (D : DF) (nf : Nat) (g : Nat → Int32), FNV A b = some D → HF nf g D → Qo (some (nf, g))) (h0 : FNV A b = none → Qo none) : wp_X11_found ν (nI m) b Qo := by
  by_cases e3 : b = 3
  · have ea : FNV A b = OWM A := by rw [FNV, if_pos e3]
    rw [ea] at h1 h0
    rw [e3]
    exact rr_found3 hm hR hv h1 h0
  by_cases e2 : b = 2
  · have ea : FNV A b = TWD A := by rw [FNV, if_neg e3, if_pos e2]
    rw [ea] at h1 h0
    rw [e2]
    exact rr_found2 hm hR hv h1 h0
  have ea : FNV A b = LSM A := by rw [FNV, if_neg e3, if_neg e2]
  rw [ea] at h1 h0
  have g := rr_found0 hm hR hv h1 h0
  exact ⟨fun _ => ⟨fun _ => (g.1 (by decide)).1 (by decide), fun z => absurd z e2⟩, fun z => absurd z e3⟩
theorem m31 {m : Nat} (h : m < 4) : 2 + 2 * m ≠ 31 := by omega
theorem ee_size (hc : CSt μ S a r k) (hv : AVs S) (hok : ∀ m D, m < 4 → a1 = nI m → IN a2 0 3 → FNV (S m) a2 = some D → ∀ μ9, CSt μ9 S a r k → Q (nI D.1) μ9) (h1 : ¬ M1 a1 → X "java/lang/IndexOutOfBoundsException" μ) (h2 : M1 a1 → ¬ IN a2 0 3 → X "java/lang/IllegalArgumentException" μ) (h3 : ∀ m, m < 4 → a1 = nI m → IN a2 0 3 → FNV (S m) a2 = none → ∀ μ9, CSt μ9 S a r k → X "java/lang/IllegalStateException" μ9) : wp_X9_size μ a1 a2 Q X := by
  refine e_mach (fun m hm em => e_rng (fun z2 => ?_) (fun z => h2 (em ▸ M1_nI hm) z)) h1
  have hM := hc.1 m hm
  have v7 := (hv m hm).2.1
  have tm := tlm hm
  refine e_makeByH (kdm hm) (m31 hm) (k2 := 57) rfl (by decide) hM (by omega) (by omega) (fun D μ7 e p z => ⟨fun _ => ?_, fun q => absurd q (by decide)⟩) (fun e μ7 z => ⟨fun q => absurd rfl q, fun _ => h3 m hm em z2 e μ7 (hc.keep (z.zf rfl))⟩)
  have e7 : μ7 57 1 = nI D.1 := p.2.2.2.1
  show Q (μ7 57 1) μ7
  rw [e7]
  exact hok m D hm em z2 e μ7 (hc.keep (z.zf rfl))
theorem rr_size (h : RSt ν S a r k t) (hv : AVs S) (hok : ∀ m D, m < 4 → a1 = nI m → IN a2 0 3 → FNV (S m) a2 = some D → ∀ ν9, RSt ν9 S a r k 0 → Q (nI D.1) ν9) (h1 : ¬ M1 a1 → ∀ b ν9, RSt ν9 S a r k 1 → Q b ν9) (h2 : M1 a1 → ¬ IN a2 0 3 → ∀ b ν9, RSt ν9 S a r k 2 → Q b ν9) (h3 : ∀ m, m < 4 → a1 = nI m → IN a2 0 3 → FNV (S m) a2 = none → ∀ b ν9, RSt ν9 S a r k 3 → Q b ν9) : wp_X11_size ν a1 a2 Q := by
  refine rr_one (fun m hm em => rr_in (fun z2 => th_ok ⟨fun _ => ?_, fun q => absurd rfl q⟩) (fun z => th_2 ⟨fun q => absurd q (by decide), fun _ => h2 (em ▸ M1_nI hm) z _ _ (h.thr 2)⟩)) (fun z => rr_in (fun _ => th_1 ⟨fun q => absurd q (by decide), fun _ => h1 z _ _ (h.thr 1)⟩) (fun _ => th_1 ⟨fun q => absurd q (by decide), fun _ => h1 z _ _ (h.thr 1)⟩))
  have h0 := h.thr 0
  have hR := h0.1 m hm
  have vA := hv m hm
  have hok' := fun D => hok m D hm em z2
  have h3' := h3 m hm em z2
  rw [em]
  generalize hN : tms ν 0 7 0 = N at *
  refine rr_foundH hm hR vA (fun D nf g e F => ⟨(fun z => nomatch z), fun n25 f26 z => ⟨fun _ => ?_, fun q => absurd rfl q⟩⟩) (fun e => ⟨fun _ => ⟨fun q => absurd q (by decide), fun _ => h3' e _ _ (h0.thr 3)⟩, (fun _ _ z => nomatch z)⟩)
  cases z
  rw [n4_div F]
  exact hok' D e _ (h0.thr 0)
theorem gs_size (hP : HPP P) (h : SIM μ ν) (nv : Int64) : wp_X9_size μ a1 a2 (fun r μ9 => wp_X11_size ν a1 a2 (fun b ν9 => P 0 r.toInt64 μ9 b ν9)) (fun E μ9 => (E = IOBn ∧ wp_X11_size ν a1 a2 (fun b ν9 => P 1 nv μ9 b ν9)) ∨ (E = IAEn ∧ wp_X11_size ν a1 a2 (fun b ν9 => P 2 nv μ9 b ν9)) ∨ (E = ISEn ∧ wp_X11_size ν a1 a2 (fun b ν9 => P 3 nv μ9 b ν9))) := by
  obtain ⟨S, a, r, k, t, hv, hc, hr⟩ := h
  refine ee_size hc hv (fun m D hm e z ev μ9 c9 => ?_) (fun z => Or.inl ⟨rfl, ?_⟩) (fun w z => Or.inr (Or.inl ⟨rfl, ?_⟩)) (fun m hm e z ev μ9 c9 => Or.inr (Or.inr ⟨rfl, ?_⟩))
  · refine rr_size hr hv (fun n D' hn e' z' ev' ν9 r9 => ?_) (fun q => absurd (e ▸ M1_nI hm) q) (fun _ q => absurd z q) (fun n hn e' z' ev' b ν9 r9 => ?_)
    all_goals
      cases nI_injS e e' (by omega) (by omega)
      rw [ev] at ev'
      cases ev'
    exact ph_ok hP hv c9 r9
  · exact rr_size hr hv (fun n D' hn e' z' ev' ν9 r9 => absurd (e' ▸ M1_nI hn) z) (fun _ b ν9 r9 => ph_x hP hv hc r9 (by decide)) (fun q => absurd q z) (fun n hn e' z' ev' b ν9 r9 => absurd (e' ▸ M1_nI hn) z)
  · exact rr_size hr hv (fun n D' hn e' z' ev' ν9 r9 => absurd z' z) (fun q => absurd w q) (fun _ _ b ν9 r9 => ph_x hP hv hc r9 (by decide)) (fun n hn e' z' ev' b ν9 r9 => absurd z' z)
  · refine rr_size hr hv (fun n D' hn e' z' ev' ν9 r9 => ?_) (fun q => absurd (e ▸ M1_nI hm) q) (fun _ q => absurd z q) (fun n hn e' z' ev' b ν9 r9 => ph_x hP hv c9 r9 (by decide))
    cases nI_injS e e' (by omega) (by omega)
    rw [ev] at ev'
    cases ev'
end SIMZ
