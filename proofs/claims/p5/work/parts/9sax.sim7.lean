section SIMK
variable {μ ν : TMem} {S : Nat → AM} {a r k t : Int32} {a1 a2 a3 a4 a5 : Int32} {m m' : Nat} {A B : AM} {D D1 D2 : DF} {Q : Int32 → TMem → Prop} {X : String → TMem → Prop} {Qi : Int32 → Prop} {Qo : Option AI → Prop} {P : PP}
/-- a way of n signs from x to y -/
def RPn (D : DF) : Nat → Nat → Nat → Prop
  | 0, x, y => x = y
  | n + 1, x, y => ∃ s, s < 3 ∧ RPn D n (D.2.1 (3 * x + s)) y
theorem RPn.snoc : ∀ (n x y : Nat), RPn D (n + 1) x y ↔ ∃ z s, s < 3 ∧ RPn D n x z ∧ D.2.1 (3 * z + s) = y := by
  intro n
  induction n with
  | zero =>
    intro x y
    exact ⟨fun ⟨s, hs, h⟩ => ⟨x, s, hs, rfl, h⟩, fun ⟨z, s, hs, h1, h2⟩ => ⟨s, hs, by cases h1; exact h2⟩⟩
  | succ n ih =>
    intro x y
    refine ⟨fun ⟨s, hs, h⟩ => ?_, fun ⟨z, s, hs, ⟨s', hs', h1⟩, h2⟩ => ⟨s', hs', (ih _ _).mpr ⟨z, s, hs, h1, h2⟩⟩⟩
    obtain ⟨z, s', hs', h1, h2⟩ := (ih _ _).mp h
    exact ⟨z, s', hs', ⟨s, hs, h1⟩, h2⟩
theorem RPn.lt (hT : ∀ j, j < 3 * D.1 → D.2.1 j < D.1) (h1 : 1 ≤ D.1) : ∀ {n x y : Nat}, x < D.1 → RPn D n x y → y < D.1 := by
  intro n
  induction n with
  | zero => intro x y hx h; cases h; exact hx
  | succ n ih => intro x y hx ⟨s, hs, h⟩; exact ih (hT _ (by omega)) h
/-- a goal is led to by n signs -/
def GR (D : DF) (n x : Nat) : Prop := ∃ y, y < D.1 ∧ D.2.2 y = true ∧ RPn D n x y
theorem GR.step {n x : Nat} : GR D (n + 1) x ↔ ∃ s, s < 3 ∧ GR D n (D.2.1 (3 * x + s)) := ⟨fun ⟨y, hy, hg, s, hs, h⟩ => ⟨s, hs, y, hy, hg, h⟩, fun ⟨s, hs, y, hy, hg, h⟩ => ⟨y, hy, hg, s, hs, h⟩⟩
def LO (D : DF) : Prop := ∃ n, D.1 ≤ n ∧ n < 2 * D.1 ∧ GR D n 0
def LIV (D : DF) (x : Int32) (a b : Nat) (v : Int32) : Prop := (∀ i, i < a → ((nn v).testBit i = true ↔ ∃ s, s < 3 ∧ (nn x).testBit (D.2.1 (3 * i + s)) = true)) ∧ ((nn v).testBit a = true ↔ ∃ s, s < b ∧ (nn x).testBit (D.2.1 (3 * a + s)) = true) ∧ ∀ i, a < i → (nn v).testBit i = false
def FIV (D : DF) (X : Int64) (a b : Nat) (v : Int64) : Prop := ∀ y, y < D.1 → ((ll v).testBit y = true ↔ ∃ x s, s < 3 ∧ (x < a ∨ (x = a ∧ s < b)) ∧ (ll X).testBit x = true ∧ D.2.1 (3 * x + s) = y)
theorem e_ledInto {k0 : Nat} {x : Int32} (hk : kd k0 = 5) (h : HP μ k0 D) (hQ : ∀ r : Int32, (∀ i, i < D.1 → ((nn r).testBit i = true ↔ ∃ s, s < 3 ∧ (nn x).testBit (D.2.1 (3 * i + s)) = true)) → (∀ i, D.1 ≤ i → (nn r).testBit i = false) → Qi r) : wp_X5_ledInto k0 μ x Qi := by
  have q := (kd5 hk).2
  obtain ⟨h1, h2, h3, h4, h5, h6⟩ := h
  have L15 : ∀ (a : Nat) (K : Int32 → Prop), a < D.1 → (∀ v, LIV D x a 3 v → K v) → ∀ (nf b : Nat) (v : Int32), 3 - b < nf → b ≤ 3 → LIV D x a b v → wpl_X5_ledInto_15 k0 μ (nI a) x K nf (nI b) v := by
    intro a K ha hK nf
    induction nf with
    | zero => intro b v hk; exact absurd hk (Nat.not_lt_zero _)
    | succ nf ih =>
      intro b v hk hb hV
      refine ⟨fun c => ?_, fun c => ?_⟩
      · rw [show (3 : Int32) = nI 3 from rfl, nI_leI (by omega) (by omega)] at c
        rw [show b = 3 by omega] at hV
        exact hK v hV
      rw [show (3 : Int32) = nI 3 from rfl, nI_leI (by omega) (by omega)] at c
      refine e_atN (by omega) ?_
      have hd := h3 (3 * a + b) (by omega)
      rw [h5 _ (by omega)]
      refine e_isIn (by omega) ⟨fun z => ?_, fun z => ?_⟩
      · rw [bi_0] at z
        rw [nI_1]
        refine ih (b + 1) v (by omega) (by omega) ⟨hV.1, ?_, hV.2.2⟩
        rw [hV.2.1]
        refine ⟨fun ⟨s, hs, g⟩ => ⟨s, by omega, g⟩, fun ⟨s, hs, g⟩ => ?_⟩
        by_cases e : s = b
        · rw [e, z] at g; cases g
        · exact ⟨s, by omega, g⟩
      · rw [bi_0] at z
        have z' : (nn x).testBit (D.2.1 (3 * a + b)) = true := by simpa using z
        rw [nI_1]
        have hbit : ∀ j, (nn (v ||| ((1 : Int32) <<< (nI a &&& 31)))).testBit j = ((nn v).testBit j || decide (a = j)) := fun j => by rw [nn_or, nn_two _ (by omega), s_or2]
        refine ih (b + 1) _ (by omega) (by omega) ⟨fun i hi => ?_, ?_, fun i hi => ?_⟩
        · rw [hbit, decide_eq_false (by omega), Bool.or_false]
          exact hV.1 i hi
        · rw [hbit, decide_eq_true rfl, Bool.or_true]
          exact ⟨fun _ => ⟨b, by omega, z'⟩, fun _ => rfl⟩
        · rw [hbit, decide_eq_false (by omega), Bool.or_false]
          exact hV.2.2 i hi
  have L4 : ∀ (nf a : Nat) (v : Int32), D.1 - a < nf → a ≤ D.1 → LIV D x a 0 v → wpl_X5_ledInto_4 k0 μ x Qi nf (nI a) v := by
    intro nf
    induction nf with
    | zero => intro a v hk; exact absurd hk (Nat.not_lt_zero _)
    | succ nf ih =>
      intro a v hk ha hV
      refine ⟨fun c => ?_, fun c => ?_⟩
      · rw [h4, nI_leI (by omega) (by omega)] at c
        have e : a = D.1 := by omega
        rw [e] at hV
        refine hQ v hV.1 (fun i hi => ?_)
        by_cases e2 : i = D.1
        · rw [e2]
          cases e3 : (nn v).testBit D.1 with
          | false => rfl
          | true =>
            obtain ⟨s, hs, _⟩ := hV.2.1.mp e3
            exact absurd hs (Nat.not_lt_zero _)
        · exact hV.2.2 i (by omega)
      rw [h4, nI_leI (by omega) (by omega)] at c
      have g := L15 a (fun u18 => wpl_X5_ledInto_4 k0 μ x Qi nf (nI a + (1 : Int32)) u18) (by omega) (fun v' hV' => by
        rw [nI_1]
        refine ih (a + 1) v' (by omega) (by omega) ⟨fun i hi => ?_, ?_, fun i hi => hV'.2.2 i (by omega)⟩
        · by_cases e : i = a
          · rw [e]; exact hV'.2.1
          · exact hV'.1 i (by omega)
        · rw [hV'.2.2 (a + 1) (by omega)]
          exact ⟨fun z => (by cases z), fun ⟨s, hs, _⟩ => absurd hs (Nat.not_lt_zero _)⟩) 4 0 v (by omega) (by omega) hV
      rw [nI_0] at g
      exact ⟨_, g⟩
  have g := L4 (D.1 + 1) 0 0 (by omega) (Nat.zero_le _) ⟨fun i hi => absurd hi (Nat.not_lt_zero _), by rw [nn_0, Nat.zero_testBit]; exact ⟨fun z => (by cases z), fun ⟨s, hs, _⟩ => absurd hs (Nat.not_lt_zero _)⟩, fun i _ => by rw [nn_0, Nat.zero_testBit]⟩
  rw [nI_0] at g
  exact ⟨_, g⟩
theorem e_longOnes {k0 : Nat} (hk : kd k0 = 5) (h : HP μ k0 D) (hQ1 : LO D → Qi 1) (hQ0 : ¬ LO D → Qi 0) : wp_X5_isTakingLongOnes k0 μ Qi := by
  have hP := h
  obtain ⟨h1, h2, h3, h4, h5, h6⟩ := h
  have e2 : (2 : Int32) * (μ k0 1) = nI (2 * D.1) := by rw [h4, show (2 : Int32) = nI 2 from rfl, s_mul]
  have L : ∀ (nf n : Nat) (v : Int32), 2 * D.1 - n < nf → n + 1 ≤ 2 * D.1 → (∀ i, i < D.1 → ((nn v).testBit i = true ↔ GR D n i)) → (∀ j, D.1 ≤ j → j < n + 1 → ¬ GR D j 0) → wpl_X5_isTakingLongOnes_7 k0 μ Qi nf (nI (n + 1)) v := by
    intro nf
    induction nf with
    | zero => intro n v hk; exact absurd hk (Nat.not_lt_zero _)
    | succ nf ih =>
      intro n v hk' hn hV hN
      refine ⟨fun c => ?_, fun c => ?_⟩
      · rw [e2, nI_leI (by omega) (by omega)] at c
        exact hQ0 (fun ⟨j, j1, j2, g⟩ => hN j j1 (by omega) g)
      rw [e2, nI_leI (by omega) (by omega)] at c
      refine e_ledInto hk hP (fun r hr _ => ?_)
      have hr' : ∀ i, i < D.1 → ((nn r).testBit i = true ↔ GR D (n + 1) i) := fun i hi => by
        rw [hr i hi, GR.step]
        exact ⟨fun ⟨s, hs, g⟩ => ⟨s, hs, (hV _ (h3 _ (by omega))).mp g⟩, fun ⟨s, hs, g⟩ => ⟨s, hs, (hV _ (h3 _ (by omega))).mpr g⟩⟩
      rw [h4, nI_ltI (by omega) (by omega), nI_1]
      have nx : (∀ j, D.1 ≤ j → j < n + 2 → ¬ GR D j 0) → wpl_X5_isTakingLongOnes_7 k0 μ Qi nf (nI (n + 2)) r := fun hN' => ih (n + 1) r (by omega) (by omega) hr' hN'
      refine ⟨fun z => nx (fun j j1 j2 => absurd j2 (by omega)), fun z => ?_⟩
      refine e_isIn (x := r) (i := 0) (by omega) ⟨fun y => ?_, fun y => ?_⟩
      · rw [bi_0] at y
        refine nx (fun j j1 j2 g => ?_)
        by_cases e : j = n + 1
        · rw [e] at g
          have := (hr' 0 (by omega)).mpr g
          rw [this] at y
          cases y
        · exact hN j j1 (by omega) g
      · rw [bi_0] at y
        exact hQ1 ⟨n + 1, by omega, by omega, (hr' 0 (by omega)).mp (by simpa using y)⟩
  refine ⟨2 * D.1 + 1, L (2 * D.1 + 1) 0 (μ k0 2) (by omega) (by omega) (fun i hi => ?_) (fun j j1 j2 => absurd j2 (by omega))⟩
  rw [h6 i (by omega), decide_eq_true hi, Bool.true_and]
  exact ⟨fun z => ⟨i, hi, z, rfl⟩, fun ⟨y, hy, hg, e⟩ => by cases e; exact hg⟩
theorem ll_bit {v : Int64} {j i : Nat} (hj : j < 64) : (ll (v ||| ((1 : Int64) <<< ((nI j).toInt64 &&& 63)))).testBit i = ((ll v).testBit i || decide (j = i)) := by rw [ll_or, ll_two _ hj, s_or2]
theorem rr_isReached {l nf : Nat} {f : Nat → Int32} (hF : HF nf f D) (hl : l < 2 ^ 30) (h1 : GR D l 0 → Qi 1) (h0 : ¬ GR D l 0 → Qi 0) : wp_X11_isReached nf f (nI l) Qi := by
  have e4 := n4_div hF
  obtain ⟨b1, b2, b3, b4, b5, b6⟩ := hF
  have L29 : ∀ (a : Nat) (X : Int64) (v17 v19 : Int32) (K : Int64 → Prop), a < D.1 → (∀ v, FIV D X a 3 v → K v) → ∀ (z b : Nat) (v : Int64), 3 - b < z → b ≤ 3 → FIV D X a b v → wpl_X11_isReached_29 f nf (nI a) v17 X v19 K z (nI b) v := by
    intro a X v17 v19 K ha hK z
    induction z with
    | zero => intro b v hk; exact absurd hk (Nat.not_lt_zero _)
    | succ z ih =>
      intro b v hk hb hV
      refine ⟨fun c => ?_, fun c => ?_⟩
      · rw [show (3 : Int32) = nI 3 from rfl, nI_leI (by omega) (by omega)] at c
        rw [show b = 3 by omega] at hV
        exact hK v hV
      rw [show (3 : Int32) = nI 3 from rfl, nI_leI (by omega) (by omega)] at c
      have p4 : (4 : Int32) * nI a + nI b = nI (4 * a + b) := by rw [show (4 : Int32) = nI 4 from rfl, s_mul, nI_add]
      have hd := b3 (3 * a + b) (by omega)
      rw [p4, nI_clamp (by omega), b5 _ _ ha (by omega), s_isInL (by omega), nI_1]
      refine ⟨fun q => ih (b + 1) v (by omega) (by omega) (fun y hy => ?_), fun q => ⟨s_in (by omega) (by omega), ih (b + 1) _ (by omega) (by omega) (fun y hy => ?_)⟩⟩
      · rw [hV y hy]
        refine ⟨fun ⟨x, s, hs, hx, g1, g2⟩ => ⟨x, s, hs, by omega, g1, g2⟩, fun ⟨x, s, hs, hx, g1, g2⟩ => ⟨x, s, hs, ?_, g1, g2⟩⟩
        by_cases e : x = a ∧ s = b
        · rw [e.1] at g1; exact absurd g1 q
        · omega
      · rw [ll_bit (by omega), Bool.or_eq_true, decide_eq_true_iff, hV y hy]
        refine ⟨fun w => ?_, fun ⟨x, s, hs, hx, g1, g2⟩ => ?_⟩
        · rcases w with ⟨x, s, hs, hx, g1, g2⟩ | e
          · exact ⟨x, s, hs, by omega, g1, g2⟩
          · exact ⟨a, b, by omega, Or.inr ⟨rfl, by omega⟩, q, e⟩
        · by_cases e : x = a ∧ s = b
          · rw [e.1, e.2] at g2; exact Or.inr g2
          · exact Or.inl ⟨x, s, hs, by omega, g1, g2⟩
  have L17 : ∀ (X : Int64) (v9 v11 : Int32) (K : Int64 → Prop), (∀ v, FIV D X D.1 0 v → K v) → ∀ (z a : Nat) (v : Int64), D.1 - a < z → a ≤ D.1 → FIV D X a 0 v → wpl_X11_isReached_17 f nf v9 X v11 K z (nI a) v := by
    intro X v9 v11 K hK z
    induction z with
    | zero => intro a v hk; exact absurd hk (Nat.not_lt_zero _)
    | succ z ih =>
      intro a v hk ha hV
      refine ⟨fun c => ?_, fun c => ?_⟩
      · rw [e4, nI_leI (by omega) (by omega)] at c
        rw [show a = D.1 by omega] at hV
        exact hK v hV
      rw [e4, nI_leI (by omega) (by omega)] at c
      have g := L29 a X v9 v11 (fun u24 => wpl_X11_isReached_17 f nf v9 X v11 K z (nI a + (1 : Int32)) u24) (by omega) (fun v' hV' => by
        rw [nI_1]
        refine ih (a + 1) v' (by omega) (by omega) (fun y hy => ?_)
        rw [hV' y hy]
        exact ⟨fun ⟨x, s, hs, hx, g1, g2⟩ => ⟨x, s, hs, by omega, g1, g2⟩, fun ⟨x, s, hs, hx, g1, g2⟩ => ⟨x, s, hs, by omega, g1, g2⟩⟩) 4 0 v (by omega) (by omega) hV
      rw [nI_0] at g
      exact ⟨_, g⟩
  have L86 : ∀ (X : Int64), (∀ y, y < D.1 → ((ll X).testBit y = true ↔ RPn D l 0 y)) → ∀ (z i : Nat), D.1 - i < z → i ≤ D.1 → (∀ y, y < i → ¬ (D.2.2 y = true ∧ RPn D l 0 y)) → wpl_X11_isReached_86 f nf X Qi z (nI i) := by
    intro X hX z
    induction z with
    | zero => intro i hk; exact absurd hk (Nat.not_lt_zero _)
    | succ z ih =>
      intro i hk hi hN
      refine ⟨fun c => ?_, fun c => ?_⟩
      · rw [e4, nI_leI (by omega) (by omega)] at c
        exact h0 (fun ⟨y, hy, g1, g2⟩ => hN y (by omega) ⟨g1, g2⟩)
      rw [e4, nI_leI (by omega) (by omega)] at c
      have hi' : i < D.1 := by omega
      have p4 : (4 : Int32) * nI i + (3 : Int32) = nI (4 * i + 3) := by rw [show (4 : Int32) = nI 4 from rfl, show (3 : Int32) = nI 3 from rfl, s_mul, nI_add]
      rw [p4, nI_clamp (by omega), b6 i hi', s_isInL (by omega), hX i hi', nI_1]
      have nx : ¬ (D.2.2 i = true ∧ RPn D l 0 i) → wpl_X11_isReached_86 f nf X Qi z (nI (i + 1)) := fun w => ih (i + 1) (by omega) (by omega) (fun y hy => by
        by_cases e : y = i
        · rw [e]; exact w
        · exact hN y (by omega))
      refine ⟨fun q => nx (fun w => q w.2), fun q => ⟨s_in (by omega) (by omega), fun z2 => nx (fun w => z2 (by rw [w.1]; rfl)), fun z2 => h1 ⟨i, hi', ?_, q⟩⟩⟩
      cases e : D.2.2 i with
      | true => rfl
      | false => rw [e] at z2; exact absurd z2 (by decide)
  have L5 : ∀ (z n : Nat) (v : Int64), l - n < z → n ≤ l → (∀ y, y < D.1 → ((ll v).testBit y = true ↔ RPn D n 0 y)) → wpl_X11_isReached_5 f nf (nI l) (fun u28 => ∃ n28x, wpl_X11_isReached_86 f nf u28 Qi n28x (0 : Int32)) z (nI n) v := by
    intro z
    induction z with
    | zero => intro n v hk; exact absurd hk (Nat.not_lt_zero _)
    | succ z ih =>
      intro n v hk hn hV
      refine ⟨fun c => ?_, fun c => ?_⟩
      · rw [nI_leI (by omega) (by omega)] at c
        rw [show n = l by omega] at hV
        exact ⟨_, L86 v hV (D.1 + 1) 0 (by omega) (Nat.zero_le _) (fun y hy => absurd hy (Nat.not_lt_zero _))⟩
      rw [nI_leI (by omega) (by omega)] at c
      have g := L17 v (nI n) (nI l) (fun u26 => wpl_X11_isReached_5 f nf (nI l) (fun u28 => ∃ n28x, wpl_X11_isReached_86 f nf u28 Qi n28x (0 : Int32)) z (nI n + (1 : Int32)) u26) (fun v' hV' => by
        rw [nI_1]
        refine ih (n + 1) v' (by omega) (by omega) (fun y hy => ?_)
        rw [hV' y hy, RPn.snoc]
        refine ⟨fun ⟨x, s, hs, hx, g1, g2⟩ => ⟨x, s, hs, (hV x (by omega)).mp g1, g2⟩, fun ⟨x, s, hs, g1, g2⟩ => ?_⟩
        have hx : x < D.1 := RPn.lt b3 b1 (by omega) g1
        exact ⟨x, s, hs, Or.inl hx, (hV x hx).mpr g1, g2⟩) (D.1 + 1) 0 0 (by omega) (Nat.zero_le _) (fun y hy => by rw [ll_0, Nat.zero_testBit]; exact ⟨fun z => (by cases z), fun ⟨x, s, hs, hx, _, _⟩ => by omega⟩)
      rw [nI_0] at g
      exact ⟨_, g⟩
  have g := L5 (l + 1) 0 1 (by omega) (Nat.zero_le _) (fun y hy => by
    rw [show ll 1 = 2 ^ 0 from by decide, Nat.testBit_two_pow]
    simp only [decide_eq_true_iff]
    exact Iff.rfl)
  rw [nI_0] at g
  exact ⟨_, g⟩
/-- what kind tells of a least one -/
noncomputable def KDV (D : DF) : Int32 := if D.1 = 1 then bi (D.2.2 0) else @ite _ (LO D) (Classical.propDecidable _) 3 2
theorem ee_kind (hc : CSt μ S a r k) (hv : AVs S) (hok : ∀ m D, m < 4 → a1 = nI m → LSM (S m) = some D → ∀ μ9, CSt μ9 S a r k → Q (KDV D) μ9) (h1 : ¬ M1 a1 → X "java/lang/IndexOutOfBoundsException" μ) (h3 : ∀ m, m < 4 → a1 = nI m → LSM (S m) = none → ∀ μ9, CSt μ9 S a r k → X "java/lang/IllegalStateException" μ9) : wp_X9_kind μ a1 Q X := by
  refine e_mach (fun m hm em => ?_) h1
  have hM := hc.1 m hm
  have v7 := (hv m hm).2.1
  have tm := tlm hm
  refine e_makeBy0 (kdm hm) (k2 := 57) rfl (by decide) hM (by omega) (by omega) (fun D μ7 e p z => ⟨fun _ => ?_, fun q => absurd q (by decide)⟩) (fun e μ7 z => ⟨fun q => absurd rfl q, fun _ => h3 m hm em e μ7 (hc.keep z)⟩)
  have d1 := p.1
  have d32 := p.2.1
  have g := hok m D hm em e μ7 (hc.keep z)
  have e7 : μ7 57 1 = nI D.1 := p.2.2.2.1
  show (¬ (μ7 57 1) = (1 : Int32) → _) ∧ ((μ7 57 1) = (1 : Int32) → _)
  rw [e7, show (1 : Int32) = nI 1 from rfl, nI_eq (by omega) (by omega)]
  refine ⟨fun n1 => ?_, fun e1 => ?_⟩
  · rw [KDV, if_neg n1] at g
    refine e_longOnes rfl p (fun w => ⟨fun q => absurd q (by decide), fun _ => ?_⟩) (fun w => ⟨fun _ => ?_, fun q => absurd rfl q⟩)
    · rw [if_pos w] at g; exact g
    · rw [if_neg w] at g; exact g
  · rw [KDV, if_pos e1] at g
    refine e_goal (a := 0) p (by omega) ⟨fun q => ?_, fun q => ?_⟩
    · rw [q] at g; exact g
    · rw [bi_0] at q
      rw [show D.2.2 0 = true by simpa using q] at g
      exact g
theorem rr_kind49 {nf : Nat} {f : Nat → Int32} (hF : HF nf f D) (h1 : LO D → Q 3 ν) (h0 : ¬ LO D → Q 2 ν) : ∃ z, wpl_X11_kind_49 ν f nf (nI D.1) Q z (nI D.1) := by
  have d1 := hF.1
  have d32 := hF.2.1
  have L : ∀ (z n : Nat), 2 * D.1 - n < z → n ≤ 2 * D.1 → (∀ j, D.1 ≤ j → j < n → ¬ GR D j 0) → D.1 ≤ n → wpl_X11_kind_49 ν f nf (nI D.1) Q z (nI n) := by
    intro z
    induction z with
    | zero => intro n hk; exact absurd hk (Nat.not_lt_zero _)
    | succ z ih =>
      intro n hk hn hN hD
      refine ⟨fun c => ?_, fun c => ?_⟩
      · rw [show (2 : Int32) = nI 2 from rfl, s_mul, nI_leI (by omega) (by omega)] at c
        exact h0 (fun ⟨j, j1, j2, g⟩ => hN j j1 (Nat.lt_of_lt_of_le j2 c) g)
      rw [show (2 : Int32) = nI 2 from rfl, s_mul, nI_leI (by omega) (by omega)] at c
      refine rr_isReached hF (by omega) (fun w => ⟨fun q => absurd q (by decide), fun _ => h1 ⟨n, hD, Nat.lt_of_not_le c, w⟩⟩) (fun w => ⟨fun _ => ?_, fun q => absurd rfl q⟩)
      rw [nI_1]
      exact ih (n + 1) (by omega) (by omega) (fun j j1 j2 => by
        by_cases e : j = n
        · rw [e]; exact w
        · exact hN j j1 (Nat.lt_of_le_of_ne (Nat.le_of_lt_succ j2) e)) (by omega)
  exact ⟨_, L (2 * D.1 + 1) D.1 (by omega) (by omega) (fun j j1 j2 => absurd j1 (Nat.not_le.mpr j2)) (Nat.le_refl _)⟩
theorem rr_kind (h : RSt ν S a r k t) (hv : AVs S) (hok : ∀ m D, m < 4 → a1 = nI m → LSM (S m) = some D → ∀ ν9, RSt ν9 S a r k 0 → Q (KDV D) ν9) (h1 : ¬ M1 a1 → ∀ b ν9, RSt ν9 S a r k 1 → Q b ν9) (h3 : ∀ m, m < 4 → a1 = nI m → LSM (S m) = none → ∀ b ν9, RSt ν9 S a r k 2 → Q b ν9) : wp_X11_kind ν a1 Q := by
  refine rr_one (fun m hm em => th_ok ⟨fun _ => ?_, fun q => absurd rfl q⟩) (fun z => th_1 ⟨fun q => absurd q (by decide), fun _ => h1 z _ _ (h.thr 1)⟩)
  have h0 := h.thr 0
  have hR := h0.1 m hm
  have vA := hv m hm
  have hok' := fun D => hok m D hm em
  have h3' := h3 m hm em
  rw [em]
  generalize hN : tms ν 0 7 0 = N at *
  refine rr_found0 hm hR vA (fun D nf g e F => ⟨(fun z => nomatch z), fun n25 f26 z => ⟨fun _ => ?_, fun q => absurd rfl q⟩⟩) (fun e => ⟨fun _ => ⟨fun q => absurd q (by decide), fun _ => h3' e _ _ (h0.thr 2)⟩, (fun _ _ z => nomatch z)⟩)
  cases z
  have d1 := F.1
  have d32 := F.2.1
  have g9 := hok' D e _ (h0.thr 0)
  rw [n4_div F, show (1 : Int32) = nI 1 from rfl, nI_eq (by omega) (by omega)]
  refine ⟨fun n1 => ?_, fun e1 => ⟨s_in (a := 3) (by have := F.2.2.2.1; omega) (by omega), ?_⟩⟩
  · rw [KDV, if_neg n1] at g9
    refine rr_kind49 F (fun w => ?_) (fun w => ?_)
    · rw [if_pos w] at g9; exact g9
    · rw [if_neg w] at g9; exact g9
  · rw [KDV, if_pos e1] at g9
    have e3 : g (3 : Int32).toNatClampNeg = bi (D.2.2 0) := F.2.2.2.2.2 0 (by omega)
    rw [e3]
    exact g9
theorem gs_kind (hP : HPP P) (h : SIM μ ν) (nv : Int64) : wp_X9_kind μ a1 (fun r μ9 => wp_X11_kind ν a1 (fun b ν9 => P 0 r.toInt64 μ9 b ν9)) (fun E μ9 => (E = IOBn ∧ wp_X11_kind ν a1 (fun b ν9 => P 1 nv μ9 b ν9)) ∨ (E = ISEn ∧ wp_X11_kind ν a1 (fun b ν9 => P 2 nv μ9 b ν9))) := by
  obtain ⟨S, a, r, k, t, hv, hc, hr⟩ := h
  refine ee_kind hc hv (fun m D hm e ev μ9 c9 => ?_) (fun z => Or.inl ⟨rfl, ?_⟩) (fun m hm e ev μ9 c9 => Or.inr ⟨rfl, ?_⟩)
  · refine rr_kind hr hv (fun n D' hn e' ev' ν9 r9 => ?_) (fun q => absurd (e ▸ M1_nI hm) q) (fun n hn e' ev' b ν9 r9 => ?_)
    all_goals
      cases nI_injS e e' (by omega) (by omega)
      rw [ev] at ev'
      cases ev'
    exact ph_ok hP hv c9 r9
  · exact rr_kind hr hv (fun n D' hn e' ev' ν9 r9 => absurd (e' ▸ M1_nI hn) z) (fun _ b ν9 r9 => ph_x hP hv hc r9 (by decide)) (fun n hn e' ev' b ν9 r9 => absurd (e' ▸ M1_nI hn) z)
  · refine rr_kind hr hv (fun n D' hn e' ev' ν9 r9 => ?_) (fun q => absurd (e ▸ M1_nI hm) q) (fun n hn e' ev' b ν9 r9 => ph_x hP hv c9 r9 (by decide))
    cases nI_injS e e' (by omega) (by omega)
    rw [ev] at ev'
    cases ev'
end SIMK
