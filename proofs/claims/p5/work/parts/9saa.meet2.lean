section SMU
variable {μ μ0 : TMem} {k1 k2 : Nat} {D1 D2 : DF}
def fM (D1 D2 : DF) : Nat → Nat → Nat := fun p s => D1.2.1 (3 * (p / 32) + s) * 32 + D2.2.1 (3 * (p % 32) + s)
def uM (D1 D2 : DF) (p : Nat) : Bool := D1.2.2 (p / 32) != D2.2.2 (p % 32)
def uW (D1 D2 : DF) (v : Int32) (p : Nat) : Bool := decide (v = 0) && uM D1 D2 p
/-- where meeting stands -/
def MTI (μ0 : TMem) (D1 D2 : DF) (lim : Nat) (u : Nat → Bool) (R : Option (List Nat × List Nat)) (L T : List Nat) (μ : TMem) : Prop :=
  EI lim (fM D1 D2) u R L T ∧ (∀ x ∈ L, x / 32 < D1.1 ∧ x % 32 < D2.1) ∧ μ 35 8 = nI L.length ∧ (∀ i, i < L.length → μ 37 i = nI (L.getD i 0 / 32) ∧ μ 39 i = nI (L.getD i 0 % 32)) ∧ (∀ p, p < 1024 → μ 47 p = if p ∈ L then nI (L.idxOf p) else (-1 : Int32)) ∧ (∀ j, j < T.length → μ 45 j = nI (T.getD j 0)) ∧ (μ 35 9 = (-1 : Int32) ↔ ∀ x ∈ L, uM D1 D2 x = false) ∧ (∀ i, i + 1 < L.length → u (L.getD i 0) = false) ∧ μ 35 6 = μ0 35 6 ∧ μ 35 7 = μ0 35 7 ∧ GB μ ∧ ∀ k, k ≠ 35 → k ≠ 37 → k ≠ 39 → k ≠ 41 → k ≠ 43 → k ≠ 45 → k ≠ 47 → μ k = μ0 k
def FME (μ μ9 : TMem) : Prop := GB μ9 ∧ ∀ k, k ≠ 35 → k ≠ 37 → k ≠ 39 → k ≠ 41 → k ≠ 43 → k ≠ 45 → k ≠ 47 → μ9 k = μ k
variable {lim : Nat} {u : Nat → Bool} {R : Option (List Nat × List Nat)}
theorem e_mbody {a b : Nat} {L T : List Nat} {KK : TMem → Prop} {Q : Int32 → TMem → Prop} (hk1 : kd k1 = 5) (hk2 : kd k2 = 5) (hP1 : HP μ0 k1 D1) (hP2 : HP μ0 k2 D2) (hg1 : ∀ i, i < 32 → (nn (μ0 35 6)).testBit i = (decide (i < D1.1) && D1.2.2 i)) (hg2 : ∀ i, i < 32 → (nn (μ0 35 7)).testBit i = (decide (i < D2.1) && D2.2.2 i)) (hlim : lim ≤ 200) (hb : b < 3) (hT : T.length = 3 * a + b) (ha : a < L.length) (hu : u (L.getD (L.length - 1) 0) = false) (hM : MTI μ0 D1 D2 lim u R L T μ)
    (hKK : ∀ (L' T' : List Nat) (μ9 : TMem), T'.length = 3 * a + (b + 1) → a < L'.length → MTI μ0 D1 D2 lim u R L' T' μ9 → KK μ9) (hQ : R = none → ∀ μ9, FME μ0 μ9 → Q 0 μ9) :
    wp_X6_at 36 μ (nI a) (fun (r18 : Int32) => wp_X7_at k1 μ r18 (nI b) (fun (r21 : Int32) => wp_X6_at 38 μ (nI a) (fun (r24 : Int32) => wp_X7_at k2 μ r24 (nI b) (fun (r27 : Int32) => wp_X6_at 46 μ ((r21 * (32 : Int32)) + r27) (fun (r30 : Int32) => (¬ r30 = (-1 : Int32) → (wp_X6_at 46 μ ((r21 * (32 : Int32)) + r27) (fun (r34 : Int32) => wp_X6_put 44 μ (((nI a) * (3 : Int32)) + (nI b)) r34 (fun (μ37 : TMem) => KK μ37)))) ∧ (r30 = (-1 : Int32) → (((μ 35 8) < (nI lim) → (wp_X4_add μ r21 r27 (nI a) (nI b) (fun (μ39 : TMem) => wp_X6_at 46 μ39 ((r21 * (32 : Int32)) + r27) (fun (r40 : Int32) => wp_X6_put 44 μ39 (((nI a) * (3 : Int32)) + (nI b)) r40 (fun (μ43 : TMem) => KK μ43))))) ∧ (¬ (μ 35 8) < (nI lim) → (Q (0 : Int32) μ))))))))) := by
  have q1 := kd5 hk1
  have q2 := kd5 hk2
  obtain ⟨h1, hr, h2, h3, h4, h5, h6, h7, h8, h9, h10, h11⟩ := hM
  have hL := h1.2.1
  have hd : ¬ (3 * L.length ≤ T.length ∨ u (L.getD (L.length - 1) 0) = true) := fun z => z.elim (fun z => by omega) (fun z => by rw [hu] at z; cases z)
  have am := hr _ (getD_mem ha)
  have p1 : HP μ k1 D1 := hP1.same (h11 _ (by omega) (by omega) (by omega) (by omega) (by omega) (by omega) (by omega)) (h11 _ (by omega) (by omega) (by omega) (by omega) (by omega) (by omega) (by omega))
  have p2 : HP μ k2 D2 := hP2.same (h11 _ (by omega) (by omega) (by omega) (by omega) (by omega) (by omega) (by omega)) (h11 _ (by omega) (by omega) (by omega) (by omega) (by omega) (by omega) (by omega))
  have d1 := p1.2.1
  have d2 := p2.2.1
  have lt1 := p1.2.2.1 (3 * (L.getD a 0 / 32) + b) (by omega)
  have lt2 := p2.2.2.1 (3 * (L.getD a 0 % 32) + b) (by omega)
  have hq : nxt (fM D1 D2) L T = D1.2.1 (3 * (L.getD a 0 / 32) + b) * 32 + D2.2.1 (3 * (L.getD a 0 % 32) + b) := by
    rw [nxt, hT, show (3 * a + b) / 3 = a by omega, show (3 * a + b) % 3 = b by omega]
    rfl
  refine e_row (k := 36) (show a < tl 37 by rw [show tl 37 = 200 from rfl]; omega) ?_
  show wp_X7_at k1 μ (μ 37 a) (nI b) _
  rw [(h3 a ha).1]
  refine e_atN (by rw [q1.2]; omega) ?_
  rw [p1.2.2.2.2.1 _ (by omega)]
  refine e_row (k := 38) (show a < tl 39 by rw [show tl 39 = 200 from rfl]; omega) ?_
  show wp_X7_at k2 μ (μ 39 a) (nI b) _
  rw [(h3 a ha).2]
  refine e_atN (by rw [q2.2]; omega) ?_
  rw [p2.2.2.2.2.1 _ (by omega), show (32 : Int32) = nI 32 from rfl, s_mul, nI_add, ← hq]
  generalize ht1 : D1.2.1 (3 * (L.getD a 0 / 32) + b) = t1 at lt1 hq
  generalize ht2 : D2.2.1 (3 * (L.getD a 0 % 32) + b) = t2 at lt2 hq
  generalize hx : nxt (fM D1 D2) L T = x at hq
  have hx1 : x / 32 = t1 := by omega
  have hx2 : x % 32 = t2 := by omega
  have hx3 : x < 1024 := by omega
  have t47 : x < tl 47 := hx3
  have pl : 3 * a + b < tl 45 := by rw [show tl 45 = 600 from rfl]; omega
  refine e_row (k := 46) t47 ?_
  have r47 := h4 x hx3
  by_cases c : x ∈ L
  · rw [if_pos c] at r47
    have il := idx_lt c
    refine ⟨fun _ => e_row (k := 46) t47 ?_, fun z => absurd (show nI (L.idxOf x) = (-1 : Int32) by rw [← r47]; exact z) (s_ne1 (by omega))⟩
    rw [s_place]
    refine e_rowput (k := 44) pl ?_
    show KK (tms μ 45 (3 * a + b) (μ 47 x))
    rw [r47, ← hT, ← hx]
    rw [← hx] at c
    refine hKK L (T ++ [L.idxOf (nxt (fM D1 D2) L T)]) _ (by rw [List.length_append]; simp; omega) ha ⟨h1.old hd c, hr, by rw [tms_ne (by decide)]; exact h2, fun i hi => by rw [tms_ne (by decide), tms_ne (by decide)]; exact h3 i hi, fun p hp => by rw [tms_ne (by decide)]; exact h4 p hp, fun j hj => ?_, by rw [tms_ne (by decide)]; exact h6, h7, by rw [tms_ne (by decide)]; exact h8, by rw [tms_ne (by decide)]; exact h9, fun i => by rw [tms_ne (by decide)]; exact h10 i, fun k z1 z2 z3 z4 z5 z6 z7 => by rw [tms_ne z6]; exact h11 k z1 z2 z3 z4 z5 z6 z7⟩
    rw [tms_eq]
    rw [List.length_append] at hj
    simp at hj
    by_cases e : j = T.length
    · rw [e, upd_at, getD_new]
    · rw [upd_ne e, getD_app (by omega)]
      exact h5 j (by omega)
  · rw [if_neg c] at r47
    refine ⟨fun z => absurd (show μ 47 x = (-1 : Int32) from r47) z, fun _ => ⟨fun z => ?_, fun z => ?_⟩⟩
    · rw [h2, nI_ltI (by omega) (by omega)] at z
      have b1 := hg1 t1 (by omega)
      have b2 := hg2 t2 (by omega)
      rw [decide_eq_true lt1, Bool.true_and] at b1
      rw [decide_eq_true lt2, Bool.true_and] at b2
      refine e_add (c := L.length) (g1 := D1.2.2 t1) (g2 := D2.2.2 t2) h2 (by omega) (by omega) (by omega) (by rw [h8]; exact b1) (by rw [h9]; exact b2) (fun M m8 m6 m7 m9 m37 m39 m43 m47 mf => ?_)
      refine e_row (k := 46) t47 ?_
      rw [s_place]
      refine e_rowput (k := 44) pl ?_
      show KK (tms M 45 (3 * a + b) (M 47 x))
      rw [← hq] at m47
      rw [m47, upd_at, ← hT]
      have hnew := h1.new hd (by rw [hx]; exact c) (by omega)
      rw [hx] at hnew
      have um : uM D1 D2 (x) = (D1.2.2 t1 != D2.2.2 t2) := by rw [uM, hx1, hx2]
      refine hKK (L ++ [x]) (T ++ [L.length]) _ (by rw [List.length_append]; simp; omega) (by rw [List.length_append]; simp; omega) ⟨hnew, fun y hy => ?_, by rw [tms_ne (by decide), m8, List.length_append]; rfl, fun i hi => ?_, fun p hp => ?_, fun j hj => ?_, ?_, fun i hi => ?_, by rw [tms_ne (by decide), m6]; exact h8, by rw [tms_ne (by decide), m7]; exact h9, fun i => ?_, fun k z1 z2 z3 z4 z5 z6 z7 => by rw [tms_ne z6, mf k z1 z2 z3 z4 z5 z7]; exact h11 k z1 z2 z3 z4 z5 z6 z7⟩
      · rw [List.mem_append] at hy
        rcases hy with hy | hy
        · exact hr y hy
        · simp at hy
          rw [hy, hx1, hx2]
          exact ⟨lt1, lt2⟩
      · rw [tms_ne (by decide), tms_ne (by decide), m37, m39]
        rw [List.length_append] at hi
        simp at hi
        by_cases e : i = L.length
        · rw [e, upd_at, upd_at, getD_new, hx1, hx2]
          exact ⟨rfl, rfl⟩
        · rw [upd_ne e, upd_ne e, getD_app (by omega)]
          exact h3 i (by omega)
      · rw [tms_ne (by decide), m47]
        by_cases e : p = x
        · rw [e, upd_at, if_pos (by simp), idx_app_new c]
        · rw [upd_ne e, h4 p hp]
          by_cases w : p ∈ L
          · rw [if_pos w, if_pos (List.mem_append_left _ w), idx_app w]
          · rw [if_neg w, if_neg (fun q => (List.mem_append.mp q).elim w (fun q => e (by simpa using q)))]
      · rw [tms_eq]
        rw [List.length_append] at hj
        simp at hj
        by_cases e : j = T.length
        · rw [e, upd_at, getD_new]
        · rw [upd_ne e, getD_app (by omega), mf 45 (by decide) (by decide) (by decide) (by decide) (by decide) (by decide)]
          exact h5 j (by omega)
      · rw [tms_ne (by decide), m9]
        by_cases w : D1.2.2 t1 = D2.2.2 t2
        · rw [if_neg (fun q => q.2 w), h6]
          refine ⟨fun q y hy => ?_, fun q y hy => q y (List.mem_append_left _ hy)⟩
          rw [List.mem_append] at hy
          rcases hy with hy | hy
          · exact q y hy
          · simp at hy
            rw [hy, um, w]
            simp
        · refine ⟨fun q => ?_, fun q => ?_⟩
          · exfalso
            by_cases w2 : μ 35 9 = (-1 : Int32)
            · rw [if_pos ⟨w2, w⟩] at q
              exact s_ne1 (by omega) q
            · rw [if_neg (fun q => w2 q.1)] at q
              exact w2 q
          · have := q (x) (by simp)
            rw [um] at this
            exact absurd (by simpa using this) w
      · rw [List.length_append] at hi
        simp at hi
        by_cases e : i + 1 = L.length
        · rw [getD_app (by omega), show i = L.length - 1 by omega]
          exact hu
        · rw [getD_app (by omega)]
          exact h7 i (by omega)
      · rw [tms_ne (by decide), m43]
        by_cases e : i = L.length
        · rw [e, upd_at]
          exact ⟨by rw [nI_toInt (by omega)]; omega, by rw [nI_toInt (by omega)]; omega⟩
        · rw [upd_ne e]
          exact h10 i
    · rw [h2, nI_ltI (by omega) (by omega)] at z
      exact hQ (h1.full hd (by rw [hx]; exact c) (by omega)) μ ⟨h10, h11⟩
theorem e_meet63 {a : Nat} {v14 : Int32} {K : TMem → Prop} {Q : Int32 → TMem → Prop} (hk1 : kd k1 = 5) (hk2 : kd k2 = 5) (hP1 : HP μ0 k1 D1) (hP2 : HP μ0 k2 D2) (hg1 : ∀ i, i < 32 → (nn (μ0 35 6)).testBit i = (decide (i < D1.1) && D1.2.2 i)) (hg2 : ∀ i, i < 32 → (nn (μ0 35 7)).testBit i = (decide (i < D2.1) && D2.2.2 i)) (hlim : lim ≤ 200)
    (hK : ∀ (L T : List Nat) (μ9 : TMem), T.length = 3 * (a + 1) → a < L.length → MTI μ0 D1 D2 lim (uW D1 D2 v14) R L T μ9 → K μ9) (hQ1 : ∀ (L T : List Nat) (μ9 : TMem), R = some (L, T) → MTI μ0 D1 D2 lim (uW D1 D2 v14) R L T μ9 → Q 1 μ9) (hQ : R = none → ∀ μ9, FME μ0 μ9 → Q 0 μ9) :
    ∀ (nf b : Nat) (L T : List Nat) (μ15 : TMem), 3 - b < nf → b ≤ 3 → T.length = 3 * a + b → a < L.length → MTI μ0 D1 D2 lim (uW D1 D2 v14) R L T μ15 → wpl_X4_meet_63 k1 k2 (nI a) (nI lim) v14 K Q nf (nI b) μ15 := by
  intro nf
  induction nf with
  | zero => intro b L T μ15 hk; exact absurd hk (Nat.not_lt_zero _)
  | succ nf ih =>
    intro b L T μ15 hnf hb hT ha hM
    have hM' := hM
    obtain ⟨h1, hr, h2, h3, h4, h5, h6, h7, h8, h9, h10, h11⟩ := hM'
    have lm : L.getD (L.length - 1) 0 ∈ L := getD_mem (by omega)
    refine ⟨fun q9 => ?_, fun q9 => ?_⟩
    · rw [show (3 : Int32) = nI 3 from rfl, nI_leI (by omega) (by omega)] at q9
      exact hK L T μ15 (by omega) ha hM
    rw [show (3 : Int32) = nI 3 from rfl, nI_leI (by omega) (by omega)] at q9
    have go : ∀ (L' T' : List Nat) (μ9 : TMem), T'.length = 3 * a + (b + 1) → a < L'.length → MTI μ0 D1 D2 lim (uW D1 D2 v14) R L' T' μ9 → wpl_X4_meet_63 k1 k2 (nI a) (nI lim) v14 K Q nf (nI b + (1 : Int32)) μ9 := fun L' T' μ9 z1 z2 z3 => by
      rw [nI_1]
      exact ih (b + 1) L' T' μ9 (by omega) (by omega) z1 z2 z3
    refine ⟨fun c => e_mbody hk1 hk2 hP1 hP2 hg1 hg2 hlim (by omega) hT ha ?_ hM go hQ, fun c => ⟨fun c2 => e_mbody hk1 hk2 hP1 hP2 hg1 hg2 hlim (by omega) hT ha ?_ hM go hQ, fun c2 => ?_⟩⟩
    · rw [uW, h6.mp c _ lm]
      simp
    · rw [uW, decide_eq_false c2]
      rfl
    · refine hQ1 L T μ15 (h1.done (Or.inr ?_)) hM
      refine Classical.byContradiction (fun w => c (h6.mpr (fun x hx => ?_)))
      obtain ⟨i, hi, rfl⟩ : ∃ i, i < L.length ∧ L.getD i 0 = x := ⟨L.idxOf x, idx_lt hx, getD_idx hx⟩
      by_cases e : i + 1 = L.length
      · rw [show L.length - 1 = i by omega] at w
        rw [uW, decide_eq_true c2, Bool.true_and] at w
        simpa using w
      · have := h7 i (by omega)
        rw [uW, decide_eq_true c2, Bool.true_and] at this
        exact this
theorem e_meet45 {v14 : Int32} {Q : Int32 → TMem → Prop} (hk1 : kd k1 = 5) (hk2 : kd k2 = 5) (hP1 : HP μ0 k1 D1) (hP2 : HP μ0 k2 D2) (hg1 : ∀ i, i < 32 → (nn (μ0 35 6)).testBit i = (decide (i < D1.1) && D1.2.2 i)) (hg2 : ∀ i, i < 32 → (nn (μ0 35 7)).testBit i = (decide (i < D2.1) && D2.2.2 i)) (hlim : lim ≤ 200)
    (hQ1 : ∀ (L T : List Nat) (μ9 : TMem), R = some (L, T) → MTI μ0 D1 D2 lim (uW D1 D2 v14) R L T μ9 → Q 1 μ9) (hQ : R = none → ∀ μ9, FME μ0 μ9 → Q 0 μ9) :
    ∀ (nf a : Nat) (L T : List Nat) (μ7 : TMem), 200 - a < nf → a ≤ L.length → T.length = 3 * a → MTI μ0 D1 D2 lim (uW D1 D2 v14) R L T μ7 → wpl_X4_meet_45 k1 k2 (nI lim) v14 Q nf (nI a) μ7 := by
  intro nf
  induction nf with
  | zero => intro a L T μ7 hk; exact absurd hk (Nat.not_lt_zero _)
  | succ nf ih =>
    intro a L T μ7 hnf ha hT hM
    have h1 := hM.1
    have hL := h1.2.1
    have h2 := hM.2.2.1
    have fin : L.length ≤ a → Q 1 μ7 := fun c => hQ1 L T μ7 (h1.done (Or.inl (by omega))) hM
    refine ⟨fun c => ?_, fun c => ⟨fun c2 => ?_, fun c2 => ?_⟩⟩
    · rw [nI_leI (by omega) (by omega)] at c
      exact fin (by omega)
    · rw [h2, nI_leI (by omega) (by omega)] at c2
      exact fin c2
    rw [h2, nI_leI (by omega) (by omega)] at c2
    have g := e_meet63 (a := a) (v14 := v14) (K := fun (μ72 : TMem) => wpl_X4_meet_45 k1 k2 (nI lim) v14 Q nf (nI a + (1 : Int32)) μ72) (Q := Q) hk1 hk2 hP1 hP2 hg1 hg2 hlim (fun L' T' μ9 z1 z2 z3 => by rw [nI_1]; exact ih (a + 1) L' T' μ9 (by omega) (by omega) z1 z3) hQ1 hQ 4 0 L T μ7 (by omega) (by omega) hT (by omega) hM
    rw [nI_0] at g
    exact ⟨_, g⟩
/-- what is met, at its end -/
def MR9 (D1 D2 : DF) (lim : Nat) (v : Int32) : Option (List Nat × List Nat) := EX lim (fM D1 D2) (uW D1 D2 v) 0
def ME9 (D1 D2 : DF) (lim : Nat) (L T : List Nat) (μ μ9 : TMem) : Prop := L.length ≤ lim ∧ 1 ≤ L.length ∧ (∀ x ∈ L, x / 32 < D1.1 ∧ x % 32 < D2.1) ∧ μ9 35 8 = nI L.length ∧ (∀ i, i < L.length → μ9 37 i = nI (L.getD i 0 / 32) ∧ μ9 39 i = nI (L.getD i 0 % 32)) ∧ (∀ j, j < T.length → μ9 45 j = nI (T.getD j 0) ∧ T.getD j 0 < L.length) ∧ (μ9 35 9 = (-1 : Int32) ↔ ∀ x ∈ L, uM D1 D2 x = false) ∧ (∀ i, i < 32 → (nn (μ9 35 6)).testBit i = (decide (i < D1.1) && D1.2.2 i)) ∧ (∀ i, i < 32 → (nn (μ9 35 7)).testBit i = (decide (i < D2.1) && D2.2.2 i)) ∧ FME μ μ9
theorem e_meet {v14 : Int32} {Q : Int32 → TMem → Prop} (hk1 : kd k1 = 5) (hk2 : kd k2 = 5) (hP1 : HP μ k1 D1) (hP2 : HP μ k2 D2) (hlim : lim ≤ 200) (hl1 : 1 ≤ lim) (hG : GB μ) (hQ1 : ∀ (L T : List Nat) (μ9 : TMem), MR9 D1 D2 lim v14 = some (L, T) → ME9 D1 D2 lim L T μ μ9 → Q 1 μ9) (hQ : MR9 D1 D2 lim v14 = none → ∀ μ9, FME μ μ9 → Q 0 μ9) : wp_X4_meet k1 k2 μ (nI lim) v14 Q := by
  have q1 := kd5 hk1
  have q2 := kd5 hk2
  refine e_fill (k := 46) (fun μ1 hf hr => ?_)
  have r35 : μ1 35 = μ 35 := hr 35 (by decide)
  have m0 : ∀ k, k ≠ 47 → μ1 k = μ k := hr
  have p1 : μ1 k1 = μ k1 := m0 k1 (by omega)
  have p2 : μ1 k2 = μ k2 := m0 k2 (by omega)
  generalize hMs : (tms (tms (tms (tms μ1 35 6 (μ1 k1 2)) 35 7 ((tms μ1 35 6 (μ1 k1 2)) k2 2)) 35 8 (0 : Int32)) 35 9 (-1 : Int32)) = Ms
  have e6 : Ms 35 6 = μ k1 2 := by rw [← hMs]; simp [tms_ix, p1]
  have e7 : Ms 35 7 = μ k2 2 := by rw [← hMs]; simp [tms_ix, p2]
  have e8 : Ms 35 8 = nI 0 := by rw [← hMs]; simp [tms_ix, nI_0]
  have e9 : Ms 35 9 = -1 := by rw [← hMs]; simp [tms_ix]
  have ef : ∀ k, k ≠ 35 → Ms k = μ1 k := fun k hk => by rw [← hMs, tms_ne hk, tms_ne hk, tms_ne hk, tms_ne hk]
  have pM1 : HP Ms k1 D1 := hP1.same (by rw [ef _ (by omega), m0 _ (by omega)]) (by rw [ef _ (by omega), m0 _ (by omega)])
  have pM2 : HP Ms k2 D2 := hP2.same (by rw [ef _ (by omega), m0 _ (by omega)]) (by rw [ef _ (by omega), m0 _ (by omega)])
  have g1 : ∀ i, i < 32 → (nn (Ms 35 6)).testBit i = (decide (i < D1.1) && D1.2.2 i) := fun i hi => by rw [e6]; exact hP1.2.2.2.2.2 i hi
  have g2 : ∀ i, i < 32 → (nn (Ms 35 7)).testBit i = (decide (i < D2.1) && D2.2.2 i) := fun i hi => by rw [e7]; exact hP2.2.2.2.2.2 i hi
  have d1 := hP1.1
  have d2 := hP2.1
  have b1 := g1 0 (by omega)
  have b2 := g2 0 (by omega)
  rw [decide_eq_true (show 0 < D1.1 by omega), Bool.true_and] at b1
  rw [decide_eq_true (show 0 < D2.1 by omega), Bool.true_and] at b2
  show wp_X4_add _ (nI 0) (nI 0) (-1 : Int32) (-1 : Int32) _
  refine e_add (c := 0) (x := 0) (y := 0) (g1 := D1.2.2 0) (g2 := D2.2.2 0) e8 (by omega) (by omega) (by omega) b1 b2 (fun M m8 m6 m7 m9 m37 m39 m43 m47 mf => ?_)
  have um : uM D1 D2 0 = (D1.2.2 0 != D2.2.2 0) := rfl
  have big : FME μ M := ⟨fun i => by
    rw [m43]
    by_cases e : i = 0
    · rw [e, upd_at]; exact ⟨by decide, by decide⟩
    · rw [upd_ne e, ef _ (by decide), m0 _ (by decide)]; exact hG i, fun k z1 z2 z3 z4 z5 z6 z7 => by rw [mf k z1 z2 z3 z4 z5 z7, ef k z1, m0 k z7]⟩
  have g := e_meet45 (μ0 := M) (k1 := k1) (k2 := k2) (D1 := D1) (D2 := D2) (lim := lim) (R := MR9 D1 D2 lim v14) (v14 := v14) (Q := Q) hk1 hk2 (pM1.same (mf _ (by omega) (by omega) (by omega) (by omega) (by omega) (by omega)) (mf _ (by omega) (by omega) (by omega) (by omega) (by omega) (by omega))) (pM2.same (mf _ (by omega) (by omega) (by omega) (by omega) (by omega) (by omega)) (mf _ (by omega) (by omega) (by omega) (by omega) (by omega) (by omega))) (fun i hi => by rw [m6]; exact g1 i hi) (fun i hi => by rw [m7]; exact g2 i hi) hlim (fun L T μ9 hR hM => by
      obtain ⟨h1, hr, h2, h3, h4, h5, h6, h7, h8, h9, h10, h11⟩ := hM
      exact hQ1 L T μ9 hR ⟨h1.2.1, h1.2.2.1, hr, h2, h3, fun j hj => ⟨h5 j hj, (h1.2.2.2.2 j hj).1⟩, h6, fun i hi => by rw [h8, m6]; exact g1 i hi, fun i hi => by rw [h9, m7]; exact g2 i hi, h10, fun k z1 z2 z3 z4 z5 z6 z7 => by rw [h11 k z1 z2 z3 z4 z5 z6 z7]; exact big.2 k z1 z2 z3 z4 z5 z6 z7⟩) (fun hR μ9 hF => hQ hR μ9 ⟨hF.1, fun k z1 z2 z3 z4 z5 z6 z7 => by rw [hF.2 k z1 z2 z3 z4 z5 z6 z7]; exact big.2 k z1 z2 z3 z4 z5 z6 z7⟩) 201 0 [0] [] M (by omega) (Nat.zero_le _) rfl ⟨EI.start 0 hl1, fun x hx => by simp at hx; subst hx; exact ⟨by omega, by omega⟩, m8, fun i hi => ?_, fun p hp => ?_, fun j hj => absurd hj (Nat.not_lt_zero _), ?_, fun i hi => by simp at hi, rfl, rfl, big.1, fun _ _ _ _ _ _ _ _ => rfl⟩
  · rw [nI_0] at g
    exact ⟨_, g⟩
  · simp at hi
    subst hi
    rw [m37, m39, upd_at, upd_at]
    exact ⟨rfl, rfl⟩
  · rw [m47]
    by_cases e : p = 0
    · rw [e]
      rw [show (0 : Nat) * 32 + 0 = 0 from rfl, upd_at, if_pos (by simp)]
      simp
    · rw [show (0 : Nat) * 32 + 0 = 0 from rfl, upd_ne e, if_neg (by simpa using e), ef _ (by decide)]
      exact hf p hp
  · rw [m9, e9]
    by_cases w : D1.2.2 0 = D2.2.2 0
    · rw [if_neg (fun q => q.2 w)]
      refine ⟨fun _ x hx => ?_, fun _ => rfl⟩
      simp at hx
      rw [hx, um, w]
      simp
    · rw [if_pos ⟨rfl, w⟩]
      refine ⟨fun q => absurd q (s_ne1 (by omega)), fun q => ?_⟩
      have := q 0 (by simp)
      rw [um] at this
      exact absurd (by simpa using this) w
end SMU
