section SIMV
variable {μ ν : TMem} {S : Nat → AM} {a r k t : Int32} {a1 a2 a3 a4 a5 : Int32} {m m' : Nat} {A B : AM} {D D1 D2 : DF} {Q : Int32 → TMem → Prop} {X : String → TMem → Prop} {Qi : Int32 → Prop} {Qo : Option AI → Prop} {P : PP}
theorem EXs_only {lim : Nat} {f : Nat → Nat → Nat} {u : Nat → Bool} {L' T' : List Nat} : ∀ (k : Nat) (L T : List Nat), (∀ i, i + 1 < L.length → u (L.getD i 0) = false) → EXs lim f u k L T = some (L', T') → ∀ i, i + 1 < L'.length → u (L'.getD i 0) = false := by
  intro k
  induction k with
  | zero => intro L T _ h; cases h
  | succ k ih =>
    intro L T hu h
    rw [EXs] at h
    by_cases hd : 3 * L.length ≤ T.length ∨ u (L.getD (L.length - 1) 0) = true
    · rw [if_pos hd] at h
      cases h
      exact hu
    · rw [if_neg hd] at h
      by_cases hm : nxt f L T ∈ L
      · rw [if_pos hm] at h
        exact ih _ _ hu h
      · rw [if_neg hm] at h
        by_cases hl : lim ≤ L.length
        · rw [if_pos hl] at h; cases h
        · rw [if_neg hl] at h
          refine ih _ _ (fun i hi => ?_) h
          rw [List.length_append] at hi
          simp only [List.length_cons, List.length_nil] at hi
          rw [getD_app (by omega)]
          by_cases e : i + 1 < L.length
          · exact hu i e
          · have e2 : i = L.length - 1 := by omega
            have := fun z => hd (Or.inr z)
            rw [e2]
            simpa using this
theorem EX_only {lim x0 : Nat} {f : Nat → Nat → Nat} {u : Nat → Bool} {L T : List Nat} (h : EX lim f u x0 = some (L, T)) : ∀ i, i + 1 < L.length → u (L.getD i 0) = false := EXs_only _ _ _ (fun i hi => by simp at hi) h
/-- whether the last pair that was met parts two machines -/
def APT (D1 D2 : DF) (L : List Nat) : Bool := uM D1 D2 (L.getD (L.length - 1) 0)
theorem APT_iff {lim : Nat} {L T : List Nat} (hl : 1 ≤ lim) (h : MR9 D1 D2 lim 0 = some (L, T)) : (∀ x ∈ L, uM D1 D2 x = false) ↔ APT D1 D2 L = false := by
  have e := EX.inv hl h
  have h1 := e.1.2.1
  refine ⟨fun z => z _ (getD_mem (by omega)), fun z x hx => ?_⟩
  have i1 := idx_lt hx
  have i2 := getD_idx hx
  by_cases e2 : L.idxOf x + 1 < L.length
  · have := EX_only h _ e2
    rw [i2, uW, decide_eq_true rfl, Bool.true_and] at this
    exact this
  · rw [← i2, show L.idxOf x = L.length - 1 by omega]
    exact z
theorem rr_pairsOf (hm : m < 4) (hm' : m' < 4) (hA : HR ν m A) (hB : HR ν m' B) (vA : AV A) (vB : AV B) (h1 : ∀ (D1 D2 : DF) (L T : List Nat) (f : Nat → Int32), PRS A B 200 0 = some (D1, D2, L, T) → MR9 D1 D2 200 0 = some (L, T) → MF9 D1 D2 200 L f → Qo (some (604, f))) (h0 : PRS A B 200 0 = none → Qo none) : wp_X11_pairsOf ν (nI m) (nI m') Qo := by
  refine rr_oneWayA hm hA vA (fun D1 n4 f5 e1 F1 => ⟨(fun z => nomatch z), fun n4' f5' z => ?_⟩) (fun e1 => ⟨fun _ => rr_oneWayA hm' hB vB (fun D2 n15 f16 e2 F2 => ⟨(fun z => nomatch z), fun _ _ _ => h0 (by rw [PRS, e1]; rfl)⟩) (fun e2 => ⟨fun _ => h0 (by rw [PRS, e1]; rfl), (fun _ _ z => nomatch z)⟩), (fun _ _ z => nomatch z)⟩)
  cases z
  refine rr_oneWayA hm' hB vB (fun D2 n15 f16 e2 F2 => ⟨(fun z => nomatch z), fun n15' f16' z => ?_⟩) (fun e2 => ⟨fun _ => h0 (by rw [PRS, e1, e2]; rfl), (fun _ _ z => nomatch z)⟩)
  cases z
  have z0 : (0 : Int32).toNatClampNeg = 0 := rfl
  refine rr_met (lim := 200) (w := 0) (v16 := 1) F1 F2 (by omega) (by omega) ⟨fun q => absurd q (by decide), fun q => absurd rfl q⟩ (fun L T f19 hR hM => ?_) (fun hR f19 hf => ?_)
  · have m0 := hM.1
    have mL := hM.2.1
    refine ⟨s_in (a := 0) (by omega) (by omega), ?_⟩
    rw [z0, m0]
    refine ⟨fun _ => h1 D1 D2 L T f19 ?_ hR hM, fun q => absurd (by rw [show (200 : Int32) = nI 200 from rfl, nI_leI (by omega) (by omega)]; omega) q⟩
    rw [PRS, e1, e2]
    show (MR9 D1 D2 200 0).map _ = _
    rw [hR]
    rfl
  · refine ⟨s_in (a := 0) (by omega) (by omega), ?_⟩
    rw [z0, hf]
    refine ⟨fun q => absurd q (by decide), fun _ => h0 ?_⟩
    rw [PRS, e1, e2]
    show (MR9 D1 D2 200 0).map _ = _
    rw [hR]
    rfl
/-- how many pairs of two machines are met -/
def PAV (A B : AM) : Option Int32 := (PRS A B 200 0).map fun p => nI p.2.2.1.length
theorem ee_pairs (hc : CSt μ S a r k) (hv : AVs S) (hok : ∀ m m' v, m < 4 → m' < 4 → a1 = nI m → a2 = nI m' → PAV (S m) (S m') = some v → ∀ μ9, CSt μ9 S a r k → Q v μ9) (h1 : ¬ ONE2 a1 a2 → X "java/lang/IndexOutOfBoundsException" μ) (h3 : ∀ m m', m < 4 → m' < 4 → a1 = nI m → a2 = nI m' → PAV (S m) (S m') = none → ∀ μ9, CSt μ9 S a r k → X "java/lang/IllegalStateException" μ9) : wp_X9_pairs μ a1 a2 Q X := by
  refine e_mach (fun m hm em => e_mach (fun m' hm' em' => ?_) (fun z => h1 (fun w => z w.2))) (fun z => h1 (fun w => z w.1))
  have v7 := (hv m hm).2.1
  have v7' := (hv m' hm').2.1
  have tm := tlm hm
  have tm' := tlm hm'
  refine e_meetPairs (lim := 200) (v := 0) (kdm hm) (kdm hm') (hc.1 m hm) (hc.1 m' hm') (by omega) (by omega) (by omega) (by omega) (by omega) (by omega) hc.2.2.2.2 (fun D1 D2 L T μ8 μ9 e hR hM _ _ hz => ⟨fun _ => ?_, fun q => absurd q (by decide)⟩) (fun e μ9 hz => ⟨fun q => absurd rfl q, fun _ => h3 m m' hm hm' em em' (by rw [PAV, e]; rfl) μ9 (hc.keep hz)⟩)
  show Q (μ9 35 8) μ9
  rw [hM.2.2.2.1]
  exact hok m m' _ hm hm' em em' (by rw [PAV, e]; rfl) μ9 (hc.keep hz)
theorem rr_pairs (h : RSt ν S a r k t) (hv : AVs S) (hok : ∀ m m' v, m < 4 → m' < 4 → a1 = nI m → a2 = nI m' → PAV (S m) (S m') = some v → ∀ ν9, RSt ν9 S a r k 0 → Q v ν9) (h1 : ¬ ONE2 a1 a2 → ∀ b ν9, RSt ν9 S a r k 1 → Q b ν9) (h3 : ∀ m m', m < 4 → m' < 4 → a1 = nI m → a2 = nI m' → PAV (S m) (S m') = none → ∀ b ν9, RSt ν9 S a r k 2 → Q b ν9) : wp_X11_pairs ν a1 a2 Q := by
  refine rr_two (fun m m' hm hm' em em' => th_ok ⟨fun _ => ?_, fun q => absurd rfl q⟩) (fun z => th_1 ⟨fun q => absurd q (by decide), fun _ => h1 z _ _ (h.thr 1)⟩)
  have h0 := h.thr 0
  rw [em, em']
  refine rr_pairsOf hm hm' (h0.1 m hm) (h0.1 m' hm') (hv m hm) (hv m' hm') (fun D1 D2 L T f e hR hM => ⟨(fun z => nomatch z), fun n10 f11 z => ?_⟩) (fun e => ⟨fun _ => ⟨fun q => absurd q (by decide), fun _ => h3 m m' hm hm' em em' (by rw [PAV, e]; rfl) _ _ (h0.thr 2)⟩, (fun _ _ z => nomatch z)⟩)
  cases z
  refine ⟨fun _ => ⟨s_in (a := 0) (by omega) (by omega), ?_⟩, fun q => absurd rfl q⟩
  show Q (f 0) _
  rw [hM.1]
  exact hok m m' _ hm hm' em em' (by rw [PAV, e]; rfl) _ (h0.thr 0)
theorem gs_pairs (hP : HPP P) (h : SIM μ ν) (nv : Int64) : wp_X9_pairs μ a1 a2 (fun r μ9 => wp_X11_pairs ν a1 a2 (fun b ν9 => P 0 r.toInt64 μ9 b ν9)) (fun E μ9 => (E = IOBn ∧ wp_X11_pairs ν a1 a2 (fun b ν9 => P 1 nv μ9 b ν9)) ∨ (E = ISEn ∧ wp_X11_pairs ν a1 a2 (fun b ν9 => P 2 nv μ9 b ν9))) := by
  obtain ⟨S, a, r, k, t, hv, hc, hr⟩ := h
  refine ee_pairs hc hv (fun m m' v hm hm' e e' ev μ9 c9 => ?_) (fun z => Or.inl ⟨rfl, ?_⟩) (fun m m' hm hm' e e' ev μ9 c9 => Or.inr ⟨rfl, ?_⟩)
  · refine rr_pairs hr hv (fun n n' v' hn hn' f f' ev' ν9 r9 => ?_) (fun z => absurd (ONE2_nI hm hm' e e') z) (fun n n' hn hn' f f' ev' b ν9 r9 => ?_)
    all_goals
      cases nI_injS e f (by omega) (by omega)
      cases nI_injS e' f' (by omega) (by omega)
      rw [ev] at ev'
      cases ev'
    exact ph_ok hP hv c9 r9
  · exact rr_pairs hr hv (fun n n' v' hn hn' f f' ev' ν9 r9 => absurd (ONE2_nI hn hn' f f') z) (fun _ b ν9 r9 => ph_x hP hv hc r9 (by decide)) (fun n n' hn hn' f f' ev' b ν9 r9 => absurd (ONE2_nI hn hn' f f') z)
  · refine rr_pairs hr hv (fun n n' v' hn hn' f f' ev' ν9 r9 => ?_) (fun z => absurd (ONE2_nI hm hm' e e') z) (fun n n' hn hn' f f' ev' b ν9 r9 => ph_x hP hv c9 r9 (by decide))
    cases nI_injS e f (by omega) (by omega)
    cases nI_injS e' f' (by omega) (by omega)
    rw [ev] at ev'
    cases ev'
/-- the same one-way machine -/
def dSm (D1 D2 : DF) : Prop := D1.1 = D2.1 ∧ (∀ i, i < D1.1 → D1.2.2 i = D2.2.2 i) ∧ ∀ j, j < 3 * D1.1 → D1.2.1 j = D2.2.1 j
theorem e_dSame {k0 k1 : Nat} (hk0 : kd k0 = 5) (hk1 : kd k1 = 5) (hA : HP μ k0 D1) (hB : HP μ k1 D2) (h1 : dSm D1 D2 → Qi 1) (h0 : ¬ dSm D1 D2 → Qi 0) : wp_X5_isSameAs k0 k1 μ Qi := by
  have q0 := (kd5 hk0).2
  have q1 := (kd5 hk1).2
  obtain ⟨b1, b2, b3, b4, b5, b6⟩ := hA
  obtain ⟨d1, d2, d3, d4, d5, d6⟩ := hB
  refine e_sameT (c := fun j => nI (D1.2.1 j)) (c' := fun j => nI (D2.2.1 j)) b4 d4 b2 d2 (by omega) (by omega) b5 d5 (fun e1 e2 e3 => ⟨Or.inr rfl, h1 ⟨e1, fun i hi => ?_, fun j hj => ?_⟩⟩) (fun w => ⟨Or.inl rfl, h0 (fun w2 => w ?_)⟩)
  · have x1 := b6 i (by omega)
    have x2 := d6 i (by omega)
    rw [decide_eq_true hi, Bool.true_and] at x1
    rw [decide_eq_true (by omega), Bool.true_and, ← e2, x1] at x2
    exact x2
  · have y1 := b3 j hj
    have y2 := d3 j (by omega)
    exact (nI_eq (by omega) (by omega)).mp (e3 j hj)
  · obtain ⟨w1, w2, w3⟩ := w2
    refine ⟨w1, nn_inj (s_ext (fun i => ?_)), fun j hj => by show nI _ = nI _; rw [w3 j hj]⟩
    by_cases hi : i < 32
    · rw [b6 i hi, d6 i hi, ← w1]
      by_cases e : i < D1.1
      · rw [w2 i e]
      · rw [decide_eq_false e, Bool.false_and, Bool.false_and]
    · rw [s_big (nn_lt _) (by omega), s_big (nn_lt _) (by omega)]
theorem rr_dSame {n12 n35 : Nat} {f13 f36 : Nat → Int32} (hA : HF n12 f13 D1) (hB : HF n35 f36 D2) (h1 : dSm D1 D2 → Q 1 ν) (h0 : ¬ dSm D1 D2 → Q 0 ν) : ∀ J49 : Int32 → Prop, (∀ (j50 : Int32), (∃ n50x, wpl_X11_isAlike_130 ν f13 n12 f36 n35 Q n50x (0 : Int32) j50) → J49 j50) → ((¬ (nI n12) = (nI n35) → (J49 (0 : Int32))) ∧ ((nI n12) = (nI n35) → (J49 (1 : Int32)))) := by
  obtain ⟨b1, b2, b3, b4, b5, b6⟩ := hA
  obtain ⟨d1, d2, d3, d4, d5, d6⟩ := hB
  have bad : ¬ dSm D1 D2 → ∀ x, wpl_X11_isAlike_130 ν f13 n12 f36 n35 Q 1 x 0 := fun z x => ⟨fun _ => ⟨Or.inl rfl, h0 z⟩, fun q => absurd rfl q⟩
  intro J hJ
  refine ⟨fun z => hJ _ ⟨1, bad (fun w => z (by rw [b4, d4, w.1])) _⟩, fun z => hJ _ ?_⟩
  rw [nI_eq (by omega) (by omega)] at z
  have hn : D1.1 = D2.1 := by omega
  have good : (∀ j, j < n12 → f13 j = f36 j) → dSm D1 D2 := fun hj => by
    refine ⟨hn, fun i hi => ?_, fun j hj' => ?_⟩
    · have := hj (4 * i + 3) (by omega)
      rw [b6 i hi, d6 i (by omega)] at this
      exact bi_inj.mp this
    · have h3 := Nat.mod_lt j (show 0 < 3 by decide)
      have e := hj (4 * (j / 3) + j % 3) (by omega)
      rw [b5 _ _ (by omega) h3, d5 _ _ (by omega) h3, show 3 * (j / 3) + j % 3 = j by omega] at e
      have y1 := b3 j hj'
      have y2 := d3 j (by omega)
      exact (nI_eq (by omega) (by omega)).mp e
  have L : ∀ (z x : Nat), n12 - x < z → x ≤ n12 → (∀ j, j < x → f13 j = f36 j) → wpl_X11_isAlike_130 ν f13 n12 f36 n35 Q (z + 1) (nI x) 1 := by
    intro z
    induction z with
    | zero => intro x hk; exact absurd hk (Nat.not_lt_zero _)
    | succ z ih =>
      intro x hk hx hj
      refine ⟨fun q => absurd q (by decide), fun _ => ⟨fun c => ?_, fun c => ?_⟩⟩
      · rw [nI_leI (by omega) (by omega)] at c
        exact ⟨Or.inr rfl, h1 (good (fun j hj' => hj j (by omega)))⟩
      rw [nI_leI (by omega) (by omega)] at c
      refine ⟨s_in (by omega) (by omega), s_in (by omega) (by omega), ?_⟩
      rw [nI_clamp (by omega), nI_1]
      refine ⟨fun q => ⟨fun _ => ⟨Or.inl rfl, h0 (fun w => q ?_)⟩, fun q => absurd rfl q⟩, fun q => ih (x + 1) (by omega) (by omega) (fun j hj' => ?_)⟩
      · obtain ⟨w1, w2, w3⟩ := w
        have h4 := Nat.mod_lt x (show 0 < 4 by decide)
        have ex : x = 4 * (x / 4) + x % 4 := by omega
        by_cases e : x % 4 = 3
        · rw [ex, e, b6 _ (by omega), d6 _ (by omega), w2 _ (by omega)]
        · rw [ex, b5 _ _ (by omega) (by omega), d5 _ _ (by omega) (by omega), w3 _ (by omega)]
      · by_cases e : j = x
        · rw [e]; exact q
        · exact hj j (by omega)
  exact ⟨_, L (n12 + 1) 0 (by omega) (Nat.zero_le _) (fun j hj => absurd hj (Nat.not_lt_zero _))⟩
theorem rr_isApart {L T : List Nat} {f : Nat → Int32} (hm : m < 4) (hm' : m' < 4) (hA : HR ν m A) (hB : HR ν m' B) (vA : AV A) (vB : AV B) (hP : PRS A B 200 0 = some (D1, D2, L, T)) (hM : MF9 D1 D2 200 L f) (h : Qi (bi (APT D1 D2 L))) : wp_X11_isApart ν (nI m) (nI m') 604 f Qi := by
  have fst : ∀ {D1' D2' : DF}, OWM A = some D1' → OWM B = some D2' → D1' = D1 ∧ D2' = D2 := fun e1 e2 => by
    rw [PRS, e1, e2] at hP
    obtain ⟨x, _, hx⟩ := Option.map_eq_some_iff.mp (show (MR9 _ _ 200 0).map _ = _ from hP)
    cases hx
    exact ⟨rfl, rfl⟩
  have no1 : OWM A ≠ none := fun e1 => by rw [PRS, e1] at hP; cases hP
  have no2 : OWM B ≠ none := fun e2 => by
    rw [PRS, e2] at hP
    cases e : OWM A with
    | none => exact no1 e
    | some x => rw [e] at hP; cases hP
  refine rr_oneWayA hm hA vA (fun D1' n4 f5 e1 F1 => ⟨(fun z => nomatch z), fun n4' f5' z => ?_⟩) (fun e1 => absurd e1 no1)
  cases z
  refine rr_oneWayA hm' hB vB (fun D2' n15 f16 e2 F2 => ⟨(fun z => nomatch z), fun n15' f16' z => ?_⟩) (fun e2 => absurd e2 no2)
  cases z
  obtain ⟨rfl, rfl⟩ := fst e1 e2
  obtain ⟨m1, m2, m3, m4, m5⟩ := hM
  have e0 : (f (0 : Int32).toNatClampNeg) = nI L.length := m1
  have ex : ((3 : Int32) * nI L.length) - (2 : Int32) = nI (3 * (L.length - 1) + 1) := by
    rw [show (3 : Int32) = nI 3 from rfl, s_mul, show (2 : Int32) = nI 2 from rfl, s_sub (by omega) (by omega)]
    congr 1
    omega
  rw [e0, ex]
  refine ⟨s_in (a := 0) (by omega) (by omega), s_in (by omega) (by omega), ?_⟩
  rw [nI_clamp (by omega), m5 _ (by omega)]
  refine rr_unlike F1 F2 (m4 _ (getD_mem (by omega))) ⟨?_, h⟩
  rw [bi]
  split
  · exact Or.inr rfl
  · exact Or.inl rfl
/-- what making the least leaves as it was -/
def FB (k2 : Nat) (μ μ9 : TMem) : Prop := ∀ k, k ≠ 17 → k ≠ 19 → k ≠ 21 → k ≠ 24 → k ≠ 26 → k ≠ 33 → k ≠ 34 → k ≠ k2 → k ≠ k2 + 1 → μ9 k = μ k
theorem FB.zf {k2 : Nat} {μ9 : TMem} (hk : kd k2 = 5) (h : FB k2 μ μ9) : ZF μ μ9 := by
  have q := kd5 hk
  refine ⟨fun k hk => h k (by omega) (by omega) (by omega) (by omega) (by omega) (by omega) (by omega) (by omega) (by omega), fun g i => ?_⟩
  rw [h 43 (by omega) (by omega) (by omega) (by omega) (by omega) (by omega) (by omega) (by omega) (by omega)]
  exact g i
theorem e_makeBy0F {k1 k2 : Nat} (hk1 : kd k1 = 2) (hk : kd k2 = 5) (h33 : k2 ≠ 33) (hM : HM μ k1 A) (h32 : A.1 ≤ 32) (ht : 3 * A.1 ≤ tl (k1 + 1)) (h1 : ∀ (D : DF) (μ9 : TMem), LSM A = some D → HP μ9 k2 D → FB k2 μ μ9 → Q 1 μ9) (h0 : LSM A = none → ∀ μ9, FB k2 μ μ9 → Q 0 μ9) : wp_X3_makeBy k1 k2 μ 0 Q := by
  refine ⟨fun _ => ⟨fun _ => ?_, fun z => absurd z (by decide)⟩, fun z => absurd z (by decide)⟩
  refine e_oneWayA (k2 := 33) hk1 rfl hM h32 ht (fun D μ3 e p f => ⟨fun _ J hJ => ⟨fun _ => ?_, fun z => absurd z (by decide)⟩, fun z => absurd z (by decide)⟩) (fun e μ9 f => ⟨fun z => absurd rfl z, fun _ => h0 (by rw [LSM, e]; rfl) μ9 (fun k q1 q2 q3 q4 q5 q6 q7 q8 q9 => f k q1 q6 q7)⟩)
  refine e_findByParting (k := 33) rfl p (fun μ7 hp hf => hJ μ7 (e_makeGroups (k1 := 33) rfl hk (fun q => h33 q.symm) (p.f2 hf (by decide)) hp (fun D' μ9 hD hH hF => ?_)))
  exact h1 D' μ9 (by rw [LSM, e]; exact hD) hH (fun k q1 q2 q3 q4 q5 q6 q7 q8 q9 => ((hF k q2 q3 q4 q5 q8 q9).trans (hf k q4 q5)).trans (f k q1 q6 q7))
/-- whether two read alike -/
noncomputable def ALV (A B : AM) (h : Int32) : Option Int32 := if h = 0 then (PRS A B 200 0).map (fun p => if APT p.1 p.2.1 p.2.2.1 = true then 0 else 1) else (LSM A).bind fun D1 => (LSM B).map fun D2 => @ite _ (dSm D1 D2) (Classical.propDecidable _) 1 0
abbrev AL1 (a1 a2 : Int32) (m m' : Nat) : Prop := m < 4 ∧ m' < 4 ∧ a1 = nI m ∧ a2 = nI m'
theorem ee_isAlike (hc : CSt μ S a r k) (hv : AVs S) (hok : ∀ m m' v, AL1 a1 a2 m m' → IN a3 0 1 → ALV (S m) (S m') a3 = some v → ∀ μ9, CSt μ9 S a r k → Q v μ9) (h1 : ¬ ONE2 a1 a2 → X "java/lang/IndexOutOfBoundsException" μ) (h2 : ONE2 a1 a2 → ¬ IN a3 0 1 → X "java/lang/IllegalArgumentException" μ) (h3 : ∀ m m', AL1 a1 a2 m m' → IN a3 0 1 → ALV (S m) (S m') a3 = none → ∀ μ9, CSt μ9 S a r k → X "java/lang/IllegalStateException" μ9) : wp_X9_isAlike μ a1 a2 a3 Q X := by
  refine e_mach (fun m hm em => e_mach (fun m' hm' em' => e_rng (fun z3 => ?_) (fun z => h2 ⟨em ▸ M1_nI hm, em' ▸ M1_nI hm'⟩ z)) (fun z => h1 (fun w => z w.2))) (fun z => h1 (fun w => z w.1))
  have hA := hc.1 m hm
  have hB := hc.1 m' hm'
  have v7 := (hv m hm).2.1
  have v7' := (hv m' hm').2.1
  have tm := tlm hm
  have tm' := tlm hm'
  have q1 := kd2 (kdm hm)
  have q2 := kd2 (kdm hm')
  have hok' := fun v => hok m m' v ⟨hm, hm', em, em'⟩ z3
  have h3' := h3 m m' ⟨hm, hm', em, em'⟩ z3
  refine ⟨fun n0 => ?_, fun e0 => ?_⟩
  · have ea : ∀ D1, LSM (S m) = some D1 → ALV (S m) (S m') a3 = (LSM (S m')).map fun D2 => @ite _ (dSm D1 D2) (Classical.propDecidable _) 1 0 := fun D1 e => by rw [ALV, if_neg n0, e]; rfl
    refine e_makeBy0 (kdm hm) (k2 := 51) rfl (by decide) hA (by omega) (by omega) (fun D1 μ7 e1 p1 z1 => ⟨fun _ => ?_, fun q => absurd q (by decide)⟩) (fun e1 μ7 z1 => ⟨fun q => absurd rfl q, fun _ => h3' (by rw [ALV, if_neg n0, e1]; rfl) μ7 (hc.keep z1)⟩)
    have c7 := hc.keep z1
    refine e_makeBy0F (kdm hm') (k2 := 53) rfl (by decide) (c7.1 m' hm') (by omega) (by omega) (fun D2 μ8 e2 p2 f2 => ⟨fun _ => ?_, fun q => absurd q (by decide)⟩) (fun e2 μ8 f2 => ⟨fun q => absurd rfl q, fun _ => h3' (by rw [ea D1 e1, e2]; rfl) μ8 (c7.keep (f2.zf rfl))⟩)
    have z2 := f2.zf rfl
    have ev : ALV (S m) (S m') a3 = some (@ite _ (dSm D1 D2) (Classical.propDecidable _) 1 0) := by rw [ea D1 e1, e2]; rfl
    refine e_dSame rfl rfl (p1.same (f2 51 (by decide) (by decide) (by decide) (by decide) (by decide) (by decide) (by decide) (by decide) (by decide)) (f2 52 (by decide) (by decide) (by decide) (by decide) (by decide) (by decide) (by decide) (by decide) (by decide))) p2 (fun w => ⟨Or.inr rfl, ?_⟩) (fun w => ⟨Or.inl rfl, ?_⟩)
    · rw [if_pos w] at ev
      exact hok' _ ev μ8 (c7.keep z2)
    · rw [if_neg w] at ev
      exact hok' _ ev μ8 (c7.keep z2)
  · have ea : ALV (S m) (S m') a3 = (PRS (S m) (S m') 200 0).map (fun p => if APT p.1 p.2.1 p.2.2.1 = true then 0 else 1) := by rw [ALV, if_pos e0]
    refine e_meetPairs (lim := 200) (v := 0) (kdm hm) (kdm hm') hA hB (by omega) (by omega) (by omega) (by omega) (by omega) (by omega) hc.2.2.2.2 (fun D1 D2 L T μ8 μ9 e hR hM _ _ hz => ⟨fun _ => ?_, fun q => absurd q (by decide)⟩) (fun e μ9 hz => ⟨fun q => absurd rfl q, fun _ => h3' (by rw [ea, e]; rfl) μ9 (hc.keep hz)⟩)
    have i9 := hM.2.2.2.2.2.2.1
    rw [APT_iff (by omega) hR] at i9
    have ev : ALV (S m) (S m') a3 = some (if APT D1 D2 L = true then 0 else 1) := by rw [ea, e]; rfl
    refine ⟨fun z => ?_, fun z => ?_⟩
    · have z2 : APT D1 D2 L = true := by
        cases e9 : APT D1 D2 L with
        | true => rfl
        | false => exact absurd (i9.mpr e9) z
      rw [if_pos z2] at ev
      exact hok' _ ev μ9 (hc.keep hz)
    · rw [if_neg (by rw [i9.mp z]; decide)] at ev
      exact hok' _ ev μ9 (hc.keep hz)
theorem rr_isAlike (h : RSt ν S a r k t) (hv : AVs S) (hok : ∀ m m' v, AL1 a1 a2 m m' → IN a3 0 1 → ALV (S m) (S m') a3 = some v → ∀ ν9, RSt ν9 S a r k 0 → Q v ν9) (h1 : ¬ ONE2 a1 a2 → ∀ b ν9, RSt ν9 S a r k 1 → Q b ν9) (h2 : ONE2 a1 a2 → ¬ IN a3 0 1 → ∀ b ν9, RSt ν9 S a r k 2 → Q b ν9) (h3 : ∀ m m', AL1 a1 a2 m m' → IN a3 0 1 → ALV (S m) (S m') a3 = none → ∀ b ν9, RSt ν9 S a r k 3 → Q b ν9) : wp_X11_isAlike ν a1 a2 a3 Q := by
  refine rr_two (fun m m' hm hm' em em' => rr_in (fun z3 => th_ok ⟨fun _ => ?_, fun q => absurd rfl q⟩) (fun z => th_2 ⟨fun q => absurd q (by decide), fun _ => h2 ⟨em ▸ M1_nI hm, em' ▸ M1_nI hm'⟩ z _ _ (h.thr 2)⟩)) (fun z => rr_in (fun _ => th_1 ⟨fun q => absurd q (by decide), fun _ => h1 z _ _ (h.thr 1)⟩) (fun _ => th_1 ⟨fun q => absurd q (by decide), fun _ => h1 z _ _ (h.thr 1)⟩))
  have h0 := h.thr 0
  have hA := h0.1 m hm
  have hB := h0.1 m' hm'
  have vA := hv m hm
  have vB := hv m' hm'
  have hok' := fun v => hok m m' v ⟨hm, hm', em, em'⟩ z3
  have h3' := h3 m m' ⟨hm, hm', em, em'⟩ z3
  rw [em, em']
  generalize hN : tms ν 0 7 0 = N at *
  refine ⟨fun n0 => ?_, fun e0 => ?_⟩
  · have ea : ∀ D1, LSM (S m) = some D1 → ALV (S m) (S m') a3 = (LSM (S m')).map fun D2 => @ite _ (dSm D1 D2) (Classical.propDecidable _) 1 0 := fun D1 e => by rw [ALV, if_neg n0, e]; rfl
    refine rr_found0 hm hA vA (fun D1 n12 f13 e1 F1 => ⟨(fun z => nomatch z), fun n12' f13' z => ?_⟩) (fun e1 => ⟨fun _ => ?_, (fun _ _ z => nomatch z)⟩)
    · cases z
      refine rr_found0 hm' hB vB (fun D2 n35 f36 e2 F2 => ⟨(fun z => nomatch z), fun n35' f36' z => ?_⟩) (fun e2 => ⟨fun _ => ⟨fun q => absurd rfl q, fun _ => ⟨fun q => absurd q (by decide), fun _ => h3' (by rw [ea D1 e1, e2]; rfl) _ _ ((h0.thr 0).thr 3)⟩⟩, (fun _ _ z => nomatch z)⟩)
      cases z
      have ev : ALV (S m) (S m') a3 = some (@ite _ (dSm D1 D2) (Classical.propDecidable _) 1 0) := by rw [ea D1 e1, e2]; rfl
      refine ⟨fun q => absurd rfl q, fun _ => ⟨fun _ => rr_dSame F1 F2 (fun w => ?_) (fun w => ?_), fun q => absurd rfl q⟩⟩
      · rw [if_pos w] at ev
        exact hok' _ ev _ ((h0.thr 0).thr 0)
      · rw [if_neg w] at ev
        exact hok' _ ev _ ((h0.thr 0).thr 0)
    · have en : ALV (S m) (S m') a3 = none := by rw [ALV, if_neg n0, e1]; rfl
      exact rr_found0 hm' hB vB (fun D2 n35 f36 e2 F2 => ⟨(fun z => nomatch z), fun n35' f36' z => ⟨fun _ => h3' en _ _ (h0.thr 3), fun q => absurd q (by decide)⟩⟩) (fun e2 => ⟨fun _ => ⟨fun _ => h3' en _ _ (h0.thr 3), fun q => absurd q (by decide)⟩, (fun _ _ z => nomatch z)⟩)
  · have ea : ALV (S m) (S m') a3 = (PRS (S m) (S m') 200 0).map (fun p => if APT p.1 p.2.1 p.2.2.1 = true then 0 else 1) := by rw [ALV, if_pos e0]
    refine rr_pairsOf hm hm' hA hB vA vB (fun D1 D2 L T f e hR hM => ⟨(fun z => nomatch z), fun n68 f69 z => ?_⟩) (fun e => ⟨fun _ => ⟨fun _ => h3' (by rw [ea, e]; rfl) _ _ (h0.thr 3), fun q => absurd q (by decide)⟩, (fun _ _ z => nomatch z)⟩)
    cases z
    have ev : ALV (S m) (S m') a3 = some (if APT D1 D2 L = true then 0 else 1) := by rw [ea, e]; rfl
    have h9 := h0.thr 0
    refine ⟨fun q => absurd rfl q, fun _ => rr_isApart hm hm' (h9.1 m hm) (h9.1 m' hm') vA vB e hM ⟨fun z => ?_, fun z => ?_⟩⟩
    · have z2 : APT D1 D2 L = true := by
        cases e9 : APT D1 D2 L with
        | true => rfl
        | false => rw [e9] at z; exact absurd rfl z
      rw [if_pos z2] at ev
      exact hok' _ ev _ h9
    · have z2 : ¬ APT D1 D2 L = true := fun w => by rw [w] at z; exact absurd z (by decide)
      rw [if_neg z2] at ev
      exact hok' _ ev _ h9
theorem AL1.one {m m' : Nat} (h : AL1 a1 a2 m m') : ONE2 a1 a2 := ONE2_nI h.1 h.2.1 h.2.2.1 h.2.2.2
theorem AL1.uq {m m' n n' : Nat} (h : AL1 a1 a2 m m') (h' : AL1 a1 a2 n n') : n = m ∧ n' = m' := by
  obtain ⟨x1, x2, x3, x4⟩ := h
  obtain ⟨y1, y2, y3, y4⟩ := h'
  exact ⟨nI_injS y3 x3 (by omega) (by omega), nI_injS y4 x4 (by omega) (by omega)⟩
theorem gs_isAlike (hP : HPB P) (h : SIM μ ν) (nv : Int64) : wp_X9_isAlike μ a1 a2 a3 (fun r μ9 => wp_X11_isAlike ν a1 a2 a3 (fun b ν9 => P 0 (if r = 0 then 0 else 1) μ9 b ν9)) (fun E μ9 => (E = IOBn ∧ wp_X11_isAlike ν a1 a2 a3 (fun b ν9 => P 1 nv μ9 b ν9)) ∨ (E = IAEn ∧ wp_X11_isAlike ν a1 a2 a3 (fun b ν9 => P 2 nv μ9 b ν9)) ∨ (E = ISEn ∧ wp_X11_isAlike ν a1 a2 a3 (fun b ν9 => P 3 nv μ9 b ν9))) := by
  obtain ⟨S, a, r, k, t, hv, hc, hr⟩ := h
  refine ee_isAlike hc hv (fun m m' v g z ev μ9 c9 => ?_) (fun z => Or.inl ⟨rfl, ?_⟩) (fun w z => Or.inr (Or.inl ⟨rfl, ?_⟩)) (fun m m' g z ev μ9 c9 => Or.inr (Or.inr ⟨rfl, ?_⟩))
  · refine rr_isAlike hr hv (fun n n' v' g' z' ev' ν9 r9 => ?_) (fun q => absurd g.one q) (fun _ q => absurd z q) (fun n n' g' z' ev' b ν9 r9 => ?_)
    all_goals
      obtain ⟨rfl, rfl⟩ := g.uq g'
      rw [ev] at ev'
      cases ev'
    exact phb_ok hP hv c9 r9
  · exact rr_isAlike hr hv (fun n n' v' g' z' ev' ν9 r9 => absurd g'.one z) (fun _ b ν9 r9 => phb_x hP hv hc r9 (by decide)) (fun q => absurd q z) (fun n n' g' z' ev' b ν9 r9 => absurd g'.one z)
  · exact rr_isAlike hr hv (fun n n' v' g' z' ev' ν9 r9 => absurd z' z) (fun q => absurd w q) (fun _ _ b ν9 r9 => phb_x hP hv hc r9 (by decide)) (fun n n' g' z' ev' b ν9 r9 => absurd z' z)
  · refine rr_isAlike hr hv (fun n n' v' g' z' ev' ν9 r9 => ?_) (fun q => absurd g.one q) (fun _ q => absurd z q) (fun n n' g' z' ev' b ν9 r9 => phb_x hP hv c9 r9 (by decide))
    obtain ⟨rfl, rfl⟩ := g.uq g'
    rw [ev] at ev'
    cases ev'
end SIMV
