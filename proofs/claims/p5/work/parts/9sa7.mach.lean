section SMA
variable {μ μ0 : TMem} {k k0 k1 : Nat} {D : DF}
theorem tms_ix {i j x : Nat} {v : Int32} : (tms μ k i v) j x = if j = k ∧ x = i then v else μ j x := by
  by_cases h : j = k
  · subst h
    by_cases e : x = i
    · simp [tms, upd, e]
    · simp [tms, upd, e]
  · simp [tms, h]
/-- a machine by its numbers: how many states, starts, goals, cells -/
abbrev AM := Nat × Int32 × Int32 × (Nat → Int32)
def HM (μ : TMem) (k : Nat) (A : AM) : Prop := μ k 1 = nI A.1 ∧ μ k 3 = A.2.1 ∧ μ k 2 = A.2.2.1 ∧ ∀ j, j < 3 * A.1 → μ (k + 1) j = A.2.2.2 j
/-- one object and its cells alone are changed -/
def FK (k : Nat) (μ μ9 : TMem) : Prop := ∀ j, j ≠ k → j ≠ k + 1 → μ9 j = μ j
theorem HM.same {μ' : TMem} {A : AM} (h : HM μ k A) (e1 : μ' k = μ k) (e2 : μ' (k + 1) = μ (k + 1)) : HM μ' k A := by
  obtain ⟨h1, h2, h3, h4⟩ := h
  exact ⟨by rw [e1]; exact h1, by rw [e1]; exact h2, by rw [e1]; exact h3, by rw [e2]; exact h4⟩
/-- cells ahead of p are written, those from p on are as they were -/
def WI (μs : TMem) (k0 : Nat) (v : Nat → Int32) (p : Nat) (μ1 : TMem) : Prop := (∀ j, j < p → μ1 (k0 + 1) j = v j) ∧ (∀ j, p ≤ j → μ1 (k0 + 1) j = μs (k0 + 1) j) ∧ ∀ j, j ≠ k0 + 1 → μ1 j = μs j
variable {μs : TMem} {v : Nat → Int32}
theorem WI.start : WI μs k0 v (3 * 0) μs := ⟨fun j hj => absurd hj (Nat.not_lt_zero _), fun _ _ => rfl, fun _ _ => rfl⟩
theorem WI.step {p : Nat} {μ1 : TMem} (h : WI μs k0 v p μ1) : WI μs k0 v (p + 1) (tms μ1 (k0 + 1) p (v p)) := by
  refine ⟨fun j hj => ?_, fun j hj => ?_, fun j hj => ?_⟩
  · rw [tms_eq]
    by_cases e : j = p
    · rw [e, upd_at]
    · rw [upd_ne e]
      exact h.1 j (by omega)
  · rw [tms_eq, upd_ne (by omega)]
    exact h.2.1 j (by omega)
  · rw [tms_ne hj]
    exact h.2.2 j hj
theorem kd2a (h : kd k = 2) : k = 2 ∨ k = 4 ∨ k = 6 ∨ k = 8 ∨ k = 10 ∨ k = 12 ∨ k = 29 ∨ k = 31 := kd2 h
/-- a machine becomes as another one, or the same -/
theorem e_become {A : AM} {Q : TMem → Prop} (hk0 : kd k0 = 2) (hk1 : kd k1 = 2) (h : HM μ k1 A) (h32 : A.1 ≤ 32) (hr : 3 * A.1 ≤ tl (k0 + 1)) (hr1 : 3 * A.1 ≤ tl (k1 + 1)) (hQ : ∀ μ9, HM μ9 k0 A → FK k0 μ μ9 → Q μ9) : wp_X2_become k0 k1 μ Q := by
  have q0 := kd2 hk0
  have q1 := kd2 hk1
  obtain ⟨n, st, go, c⟩ := A
  obtain ⟨h1, h2, h3, h4⟩ := h
  simp only at h1 h2 h3 h4 h32 hr hr1
  generalize hμs : (tms (tms (tms μ k0 1 (μ k1 1)) k0 3 ((tms μ k0 1 (μ k1 1)) k1 3)) k0 2 ((tms (tms μ k0 1 (μ k1 1)) k0 3 ((tms μ k0 1 (μ k1 1)) k1 3)) k1 2)) = μs
  have hs1 : μs k0 1 = nI n := by rw [← hμs]; simp [tms_ix, h1]
  have hs3 : μs k0 3 = st := by rw [← hμs]; simp [tms_ix, h2]
  have hs2 : μs k0 2 = go := by rw [← hμs]; simp [tms_ix, h3]
  have hsf : ∀ j, j ≠ k0 → μs j = μ j := fun j hj => by rw [← hμs, tms_ne hj, tms_ne hj, tms_ne hj]
  have fin : ∀ μ1, WI μs k0 c (3 * n) μ1 → Q μ1 := fun μ1 hw => hQ μ1 ⟨by rw [hw.2.2 k0 (by omega)]; exact hs1, by rw [hw.2.2 k0 (by omega)]; exact hs3, by rw [hw.2.2 k0 (by omega)]; exact hs2, fun j hj => hw.1 j hj⟩ (fun j a b => by rw [hw.2.2 j b, hsf j a])
  show ∃ n0x, wpl_X2_become_26 k0 k1 Q n0x (0 : Int32) (tms (tms (tms μ k0 1 (μ k1 1)) k0 3 ((tms μ k0 1 (μ k1 1)) k1 3)) k0 2 ((tms (tms μ k0 1 (μ k1 1)) k0 3 ((tms μ k0 1 (μ k1 1)) k1 3)) k1 2))
  rw [hμs]
  have L2 : ∀ (a : Nat) (K : TMem → Prop), a < n → (∀ μ9, WI μs k0 c (3 * a + 3) μ9 → K μ9) → ∀ (nf b : Nat) (μ1 : TMem), 3 - b < nf → b ≤ 3 → WI μs k0 c (3 * a + b) μ1 → wpl_X2_become_36 k0 k1 (nI a) K nf (nI b) μ1 := by
    intro a K ha hK nf
    induction nf with
    | zero => intro b μ1 hk; exact absurd hk (Nat.not_lt_zero _)
    | succ nf ih =>
      intro b μ1 hk hb hw
      refine ⟨fun q9 => ?_, fun q9 => ?_⟩
      · rw [show (3 : Int32) = nI 3 from rfl, nI_leI (by omega) (by omega)] at q9
        rw [show 3 * a + b = 3 * a + 3 by omega] at hw
        exact hK μ1 hw
      rw [show (3 : Int32) = nI 3 from rfl, nI_leI (by omega) (by omega)] at q9
      refine e_atN (by omega) (e_putN (by omega) ?_)
      have hv : μ1 (k1 + 1) (3 * a + b) = c (3 * a + b) := by
        by_cases e : k1 = k0
        · rw [e, hw.2.1 _ (Nat.le_refl _), hsf _ (by omega), ← e]
          exact h4 _ (by omega)
        · rw [hw.2.2 _ (by omega), hsf _ (by omega)]
          exact h4 _ (by omega)
      rw [hv]
      rw [nI_1]
      exact ih (b + 1) _ (by omega) (by omega) hw.step
  have L1 : ∀ (nf a : Nat) (μ1 : TMem), n - a < nf → a ≤ n → WI μs k0 c (3 * a) μ1 → wpl_X2_become_26 k0 k1 Q nf (nI a) μ1 := by
    intro nf
    induction nf with
    | zero => intro a μ1 hk; exact absurd hk (Nat.not_lt_zero _)
    | succ nf ih =>
      intro a μ1 hk ha hw
      have hz : μ1 k0 1 = nI n := by rw [hw.2.2 k0 (by omega)]; exact hs1
      refine ⟨fun q9 => ?_, fun q9 => ?_⟩
      · rw [hz, nI_leI (by omega) (by omega)] at q9
        rw [show a = n by omega] at hw
        exact fin μ1 hw
      rw [hz, nI_leI (by omega) (by omega)] at q9
      have g := L2 a (fun μ9 => wpl_X2_become_26 k0 k1 Q nf (nI a + (1 : Int32)) μ9) (by omega) (fun μ9 h9 => by rw [nI_1]; exact ih (a + 1) μ9 (by omega) (by omega) h9) 4 0 μ1 (by omega) (by omega) hw
      rw [nI_0] at g
      exact ⟨_, g⟩
  have g := L1 (n + 1) 0 μs (by omega) (Nat.zero_le _) (WI.start)
  rw [nI_0] at g
  exact ⟨_, g⟩
/-- a mask out of flags -/
def gmk (g : Nat → Bool) : Nat → Int32
  | 0 => 0
  | i + 1 => if g i = true then gmk g i ||| ((1 : Int32) <<< (nI i &&& 31)) else gmk g i
theorem gmk_bit {g : Nat → Bool} : ∀ z, z ≤ 32 → ∀ i, (nn (gmk g z)).testBit i = (decide (i < z) && g i) := by
  intro z
  induction z with
  | zero => intro _ i; rw [gmk, nn_0]; simp
  | succ z ih =>
    intro hz i
    have h := ih (by omega) i
    rw [gmk]
    by_cases e : i = z
    · subst e
      cases q : g i with
      | true => rw [if_pos rfl, nn_or, nn_two i (by omega), s_or2]; simp
      | false => rw [if_neg (by decide), h]; simp
    · have e2 : ¬ z = i := fun w => e w.symm
      have e3 : decide (i < z + 1) = decide (i < z) := decide_eq_decide.mpr (by omega)
      by_cases q : g z = true
      · rw [if_pos q, nn_or, nn_two z (by omega), s_or2, h, e3]; simp [e2]
      · rw [if_neg q, h, e3]
theorem gmk_of {x : Int32} {g : Nat → Bool} {z : Nat} (hz : z ≤ 32) (h : ∀ i, i < 32 → (nn x).testBit i = (decide (i < z) && g i)) : x = gmk g z := by
  refine nn_inj (s_ext (fun i => ?_))
  rw [gmk_bit z hz]
  by_cases e : i < 32
  · exact h i e
  · rw [s_big (nn_lt x) (by omega)]
    have : ¬ i < z := by omega
    simp [this]
/-- a one-way machine as a machine -/
def aP (D : DF) : AM := (D.1, 1, gmk D.2.2 D.1, fun j => if j < 3 * D.1 then (1 : Int32) <<< (nI (D.2.1 j) &&& 31) else 0)
theorem e_becomePlain {Q : TMem → Prop} (hk0 : kd k0 = 2) (hk1 : kd k1 = 5) (h : HP μ k1 D) (hr : 3 * D.1 ≤ tl (k0 + 1)) (hQ : ∀ μ9, HM μ9 k0 (aP D) → FK k0 μ μ9 → Q μ9) : wp_X2_becomePlain k0 k1 μ Q := by
  have q0 := kd2 hk0
  have q1 := kd5 hk1
  obtain ⟨n, T, gl⟩ := D
  obtain ⟨p1, h32, hT, h1, h4, h3⟩ := h
  simp only at p1 h32 hT h1 h4 h3 hr
  generalize hμs : (tms (tms (tms μ k0 1 (μ k1 1)) k0 3 (1 : Int32)) k0 2 ((tms (tms μ k0 1 (μ k1 1)) k0 3 (1 : Int32)) k1 2)) = μs
  have hs1 : μs k0 1 = nI n := by rw [← hμs]; simp [tms_ix, h1]
  have hs3 : μs k0 3 = 1 := by rw [← hμs]; simp [tms_ix]
  have hs2 : μs k0 2 = gmk gl n := by
    have e := gmk_of h32 h3
    rw [← hμs]; simp [tms_ix, e]
  have hsf : ∀ j, j ≠ k0 → μs j = μ j := fun j hj => by rw [← hμs, tms_ne hj, tms_ne hj, tms_ne hj]
  have fin : ∀ μ1, WI μs k0 (fun j => (1 : Int32) <<< (nI (T j) &&& 31)) (3 * n) μ1 → Q μ1 := fun μ1 hw => hQ μ1 ⟨by rw [hw.2.2 k0 (by omega)]; exact hs1, by rw [hw.2.2 k0 (by omega)]; exact hs3, by rw [hw.2.2 k0 (by omega)]; exact hs2, fun j hj => by
    rw [hw.1 j hj]
    show _ = if j < 3 * n then _ else _
    rw [if_pos (show j < 3 * n from hj)]⟩ (fun j a b => by rw [hw.2.2 j b, hsf j a])
  show ∃ n0x, wpl_X2_becomePlain_23 k0 k1 Q n0x (0 : Int32) (tms (tms (tms μ k0 1 (μ k1 1)) k0 3 (1 : Int32)) k0 2 ((tms (tms μ k0 1 (μ k1 1)) k0 3 (1 : Int32)) k1 2))
  rw [hμs]
  have L2 : ∀ (a : Nat) (K : TMem → Prop), a < n → (∀ μ9, WI μs k0 (fun j => (1 : Int32) <<< (nI (T j) &&& 31)) (3 * a + 3) μ9 → K μ9) → ∀ (nf b : Nat) (μ1 : TMem), 3 - b < nf → b ≤ 3 → WI μs k0 (fun j => (1 : Int32) <<< (nI (T j) &&& 31)) (3 * a + b) μ1 → wpl_X2_becomePlain_33 k0 k1 (nI a) K nf (nI b) μ1 := by
    intro a K ha hK nf
    induction nf with
    | zero => intro b μ1 hk; exact absurd hk (Nat.not_lt_zero _)
    | succ nf ih =>
      intro b μ1 hk hb hw
      refine ⟨fun q9 => ?_, fun q9 => ?_⟩
      · rw [show (3 : Int32) = nI 3 from rfl, nI_leI (by omega) (by omega)] at q9
        rw [show 3 * a + b = 3 * a + 3 by omega] at hw
        exact hK μ1 hw
      rw [show (3 : Int32) = nI 3 from rfl, nI_leI (by omega) (by omega)] at q9
      refine e_atN (by rw [q1.2]; omega) (e_putN (by omega) ?_)
      have hv : μ1 (k1 + 1) (3 * a + b) = nI (T (3 * a + b)) := by rw [hw.2.2 _ (by omega), hsf _ (by omega), h4 _ (by omega)]
      rw [hv]
      rw [nI_1]
      exact ih (b + 1) _ (by omega) (by omega) hw.step
  have L1 : ∀ (nf a : Nat) (μ1 : TMem), n - a < nf → a ≤ n → WI μs k0 (fun j => (1 : Int32) <<< (nI (T j) &&& 31)) (3 * a) μ1 → wpl_X2_becomePlain_23 k0 k1 Q nf (nI a) μ1 := by
    intro nf
    induction nf with
    | zero => intro a μ1 hk; exact absurd hk (Nat.not_lt_zero _)
    | succ nf ih =>
      intro a μ1 hk ha hw
      have hz : μ1 k0 1 = nI n := by rw [hw.2.2 k0 (by omega)]; exact hs1
      refine ⟨fun q9 => ?_, fun q9 => ?_⟩
      · rw [hz, nI_leI (by omega) (by omega)] at q9
        rw [show a = n by omega] at hw
        exact fin μ1 hw
      rw [hz, nI_leI (by omega) (by omega)] at q9
      have g := L2 a (fun μ9 => wpl_X2_becomePlain_23 k0 k1 Q nf (nI a + (1 : Int32)) μ9) (by omega) (fun μ9 h9 => by rw [nI_1]; exact ih (a + 1) μ9 (by omega) (by omega) h9) 4 0 μ1 (by omega) (by omega) hw
      rw [nI_0] at g
      exact ⟨_, g⟩
  have g := L1 (n + 1) 0 μs (by omega) (Nat.zero_le _) (WI.start)
  rw [nI_0] at g
  exact ⟨_, g⟩
/-- the states from which arrows lead to one -/
def SRg (c : Nat → Int32) (to s : Nat) : Nat → Int32
  | 0 => 0
  | i + 1 => if (nn (c (3 * i + s))).testBit to = true then SRg c to s i ||| ((1 : Int32) <<< (nI i &&& 31)) else SRg c to s i
theorem SRg_bit {c : Nat → Int32} {to s : Nat} : ∀ z, z ≤ 32 → ∀ i, (nn (SRg c to s z)).testBit i = (decide (i < z) && (nn (c (3 * i + s))).testBit to) := by
  intro z
  induction z with
  | zero => intro _ i; rw [SRg, nn_0]; simp
  | succ z ih =>
    intro hz i
    have h := ih (by omega) i
    rw [SRg]
    by_cases e : i = z
    · subst e
      cases q : (nn (c (3 * i + s))).testBit to with
      | true => rw [if_pos rfl, nn_or, nn_two i (by omega), s_or2]; simp
      | false => rw [if_neg (by decide), h]; simp
    · have e2 : ¬ z = i := fun w => e w.symm
      have e3 : decide (i < z + 1) = decide (i < z) := decide_eq_decide.mpr (by omega)
      by_cases q : (nn (c (3 * z + s))).testBit to = true
      · rw [if_pos q, nn_or, nn_two z (by omega), s_or2, h, e3]; simp [e2]
      · rw [if_neg q, h, e3]
theorem e_sources {c : Nat → Int32} {n to s : Nat} {Q : Int32 → Prop} (hn : μ k 1 = nI n) (hn32 : n ≤ 32) (hto : to < 32) (ht : 3 * n ≤ tl (k + 1)) (hs : s < 3) (hc : ∀ j, j < 3 * n → μ (k + 1) j = c j) (h : Q (SRg c to s n)) : wp_X2_sources k μ (nI to) (nI s) Q := by
  have L : ∀ (nf a : Nat), n - a < nf → a ≤ n → wpl_X2_sources_5 k μ (nI to) (nI s) Q nf (nI a) (SRg c to s a) := by
    intro nf
    induction nf with
    | zero => intro a hk; exact absurd hk (Nat.not_lt_zero _)
    | succ nf ih =>
      intro a hk ha
      refine ⟨fun q => ?_, fun q => ?_⟩
      · rw [hn, nI_leI (by omega) (by omega)] at q
        rw [show a = n by omega]
        exact h
      rw [hn, nI_leI (by omega) (by omega)] at q
      have g := ih (a + 1) (by omega) (by omega)
      refine e_atN (by omega) ?_
      rw [hc _ (by omega)]
      refine ⟨fun z => ⟨fun _ => ?_, fun w => absurd rfl w⟩, fun z => ⟨fun w => absurd w (by decide), fun _ => ?_⟩⟩
      · rw [s_isIn hto] at z
        rw [SRg, if_neg (by rw [z]; decide)] at g
        rw [nI_1]
        exact g
      · rw [s_isIn hto] at z
        rw [SRg, if_pos (by simpa using z)] at g
        rw [nI_1]
        exact g
  have g := L (n + 1) 0 (by omega) (Nat.zero_le _)
  rw [nI_0] at g
  exact ⟨_, g⟩
/-- a machine turned round -/
def aT (A : AM) : AM := (A.1, A.2.2.1, A.2.1, fun j => if j < 3 * A.1 then SRg A.2.2.2 (j / 3) (j % 3) A.1 else 0)
theorem e_becomeRound {A : AM} {Q : TMem → Prop} (hk0 : kd k0 = 2) (hk1 : kd k1 = 2) (h01 : k0 ≠ k1) (h : HM μ k1 A) (h32 : A.1 ≤ 32) (hr : 3 * A.1 ≤ tl (k0 + 1)) (hr1 : 3 * A.1 ≤ tl (k1 + 1)) (hQ : ∀ μ9, HM μ9 k0 (aT A) → FK k0 μ μ9 → Q μ9) : wp_X2_becomeRound k0 k1 μ Q := by
  have q0 := kd2 hk0
  have q1 := kd2 hk1
  obtain ⟨n, st, go, c⟩ := A
  obtain ⟨h1, h2, h3, h4⟩ := h
  simp only at h1 h2 h3 h4 h32 hr hr1
  generalize hμs : (tms (tms (tms μ k0 1 (μ k1 1)) k0 3 ((tms μ k0 1 (μ k1 1)) k1 2)) k0 2 ((tms (tms μ k0 1 (μ k1 1)) k0 3 ((tms μ k0 1 (μ k1 1)) k1 2)) k1 3)) = μs
  have h10 : ¬ k1 = k0 := fun e => h01 e.symm
  have hs1 : μs k0 1 = nI n := by rw [← hμs]; simp [tms_ix, h1]
  have hs3 : μs k0 3 = go := by rw [← hμs]; simp [tms_ix, h3]
  have hs2 : μs k0 2 = st := by rw [← hμs]; simp [tms_ix, h2, h10]
  have hsf : ∀ j, j ≠ k0 → μs j = μ j := fun j hj => by rw [← hμs, tms_ne hj, tms_ne hj, tms_ne hj]
  have fin : ∀ μ1, WI μs k0 (fun j => SRg c (j / 3) (j % 3) n) (3 * n) μ1 → Q μ1 := fun μ1 hw => hQ μ1 ⟨by rw [hw.2.2 k0 (by omega)]; exact hs1, by rw [hw.2.2 k0 (by omega)]; exact hs3, by rw [hw.2.2 k0 (by omega)]; exact hs2, fun j hj => by
    rw [hw.1 j hj]
    show _ = if j < 3 * n then _ else _
    rw [if_pos (show j < 3 * n from hj)]⟩ (fun j a b => by rw [hw.2.2 j b, hsf j a])
  show ∃ n0x, wpl_X2_becomeRound_26 k0 k1 Q n0x (0 : Int32) (tms (tms (tms μ k0 1 (μ k1 1)) k0 3 ((tms μ k0 1 (μ k1 1)) k1 2)) k0 2 ((tms (tms μ k0 1 (μ k1 1)) k0 3 ((tms μ k0 1 (μ k1 1)) k1 2)) k1 3))
  rw [hμs]
  have L2 : ∀ (a : Nat) (K : TMem → Prop), a < n → (∀ μ9, WI μs k0 (fun j => SRg c (j / 3) (j % 3) n) (3 * a + 3) μ9 → K μ9) → ∀ (nf b : Nat) (μ1 : TMem), 3 - b < nf → b ≤ 3 → WI μs k0 (fun j => SRg c (j / 3) (j % 3) n) (3 * a + b) μ1 → wpl_X2_becomeRound_36 k0 k1 (nI a) K nf (nI b) μ1 := by
    intro a K ha hK nf
    induction nf with
    | zero => intro b μ1 hk; exact absurd hk (Nat.not_lt_zero _)
    | succ nf ih =>
      intro b μ1 hk hb hw
      refine ⟨fun q9 => ?_, fun q9 => ?_⟩
      · rw [show (3 : Int32) = nI 3 from rfl, nI_leI (by omega) (by omega)] at q9
        rw [show 3 * a + b = 3 * a + 3 by omega] at hw
        exact hK μ1 hw
      rw [show (3 : Int32) = nI 3 from rfl, nI_leI (by omega) (by omega)] at q9
      have e1 : μ1 k1 = μ k1 := by rw [hw.2.2 _ (by omega), hsf _ h10]
      have e2 : μ1 (k1 + 1) = μ (k1 + 1) := by rw [hw.2.2 _ (by omega), hsf _ (by omega)]
      refine e_sources (c := c) (n := n) (by rw [e1]; exact h1) h32 (by omega) hr1 (by omega) (fun j hj => by rw [e2]; exact h4 j hj) (e_putN (by omega) ?_)
      rw [show SRg c a b n = (fun j => SRg c (j / 3) (j % 3) n) (3 * a + b) by show _ = SRg c ((3 * a + b) / 3) ((3 * a + b) % 3) n; rw [show (3 * a + b) / 3 = a by omega, show (3 * a + b) % 3 = b by omega]]
      rw [nI_1]
      exact ih (b + 1) _ (by omega) (by omega) hw.step
  have L1 : ∀ (nf a : Nat) (μ1 : TMem), n - a < nf → a ≤ n → WI μs k0 (fun j => SRg c (j / 3) (j % 3) n) (3 * a) μ1 → wpl_X2_becomeRound_26 k0 k1 Q nf (nI a) μ1 := by
    intro nf
    induction nf with
    | zero => intro a μ1 hk; exact absurd hk (Nat.not_lt_zero _)
    | succ nf ih =>
      intro a μ1 hk ha hw
      have hz : μ1 k0 1 = nI n := by rw [hw.2.2 k0 (by omega)]; exact hs1
      refine ⟨fun q9 => ?_, fun q9 => ?_⟩
      · rw [hz, nI_leI (by omega) (by omega)] at q9
        rw [show a = n by omega] at hw
        exact fin μ1 hw
      rw [hz, nI_leI (by omega) (by omega)] at q9
      have g := L2 a (fun μ9 => wpl_X2_becomeRound_26 k0 k1 Q nf (nI a + (1 : Int32)) μ9) (by omega) (fun μ9 h9 => by rw [nI_1]; exact ih (a + 1) μ9 (by omega) (by omega) h9) 4 0 μ1 (by omega) (by omega) hw
      rw [nI_0] at g
      exact ⟨_, g⟩
  have g := L1 (n + 1) 0 μs (by omega) (Nat.zero_le _) (WI.start)
  rw [nI_0] at g
  exact ⟨_, g⟩
end SMA
