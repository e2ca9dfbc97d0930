section SOP
variable {μ μ0 : TMem} {k1 k2 : Nat} {gl : Nat → Bool} {f : Nat → Nat → Nat} {R : Option (List Nat × List Nat)}
/-- the frame of making a one-way one into k2 -/
def F17 (k2 : Nat) (μ μ9 : TMem) : Prop := ∀ k, k ≠ 17 → k ≠ k2 → k ≠ k2 + 1 → μ9 k = μ k
theorem e_ow78 {n a : Nat} {x : Int32} {K : TMem → Prop} {Q : Int32 → TMem → Prop} (hk1 : kd k1 = 2) (hk : kd k2 = 5) (hn : μ0 k1 1 = nI n) (hn32 : n ≤ 32) (ht : 3 * n ≤ tl (k1 + 1)) (hf : f = RC n (fun j => nn (μ0 (k1 + 1) j)))
    (hK : ∀ (L T : List Nat) (μ9 : TMem), T.length = 3 * (a + 1) → a < L.length → OI μ0 k2 gl f R L T (a + 1) μ9 → K μ9) (hQ : R = none → ∀ μ9, F17 k2 μ0 μ9 → Q 0 μ9) :
    ∀ (nf b : Nat) (L T : List Nat) (μ17 : TMem), 3 - b < nf → b ≤ 3 → T.length = 3 * a + b → a < L.length → nn x = L.getD a 0 → OI μ0 k2 gl f R L T (a + 1) μ17 → wpl_X3_makeOneWay_78 k1 k2 x (nI a) K Q nf (nI b) μ17 := by
  have q5 := kd5 hk
  have q2 := kd2 hk1
  intro nf
  induction nf with
  | zero => intro b L T μ17 hk; exact absurd hk (Nat.not_lt_zero _)
  | succ nf ih =>
    intro b L T μ17 hnf hb hT ha hx hO
    have hO' := hO
    obtain ⟨h1, h2, h3, h4, h5, h6⟩ := hO'
    have hL := h1.2.1
    refine ⟨fun c => ?_, fun c => ?_⟩
    · rw [show (3 : Int32) = nI 3 from rfl, nI_leI (by omega) (by omega)] at c
      exact hK L T μ17 (by omega) ha hO
    rw [show (3 : Int32) = nI 3 from rfl, nI_leI (by omega) (by omega)] at c
    have e1 : μ17 k1 = μ0 k1 := h6 k1 (by omega) (by omega) (by omega)
    have e2 : μ17 (k1 + 1) = μ0 (k1 + 1) := h6 (k1 + 1) (by omega) (by omega) (by omega)
    have hd : ¬ 3 * L.length ≤ T.length := by omega
    have hp : 3 * a + b < tl (k2 + 1) := by rw [q5.2]; omega
    refine e_reach (k := k1) (by rw [e1]; exact hn) hn32 ht (by omega) (fun r hr => ?_)
    have er : nn r = nxt f L T := by rw [hr, e2, hx, nxt, hf, hT, show (3 * a + b) / 3 = a by omega, show (3 * a + b) % 3 = b by omega]
    refine e_numberOf hk h2 h1.2.1 h3 (fun m => ?_) (fun m hl => ?_) (fun m hl => ?_)
    · rw [er] at m
      rw [er]
      refine ⟨fun _ => e_putN hp ?_, fun z => absurd z (s_ne1 (by have := idx_lt m; omega))⟩
      rw [nI_1, ← hT]
      exact ih (b + 1) L _ _ (by omega) (by omega) (by rw [List.length_append]; simp; omega) ha hx (hO.old hk hd m)
    · rw [er] at m
      exact ⟨fun z => absurd rfl z, fun _ => hQ (h1.full (fun z => z.elim hd (fun z => by cases z)) m hl) _ h6⟩
    · rw [er] at m
      refine ⟨fun _ => e_putN hp ?_, fun z => absurd z (s_ne1 (by omega))⟩
      rw [nI_1, ← hT]
      exact ih (b + 1) (L ++ [nxt f L T]) _ _ (by omega) (by omega) (by rw [List.length_append]; simp; omega) (by rw [List.length_append]; simp; omega) (by rw [getD_app ha]; exact hx) (hO.new hk hd m hl (by omega) er)
theorem e_with {S j : Int32} {a : Nat} {Q : Int32 → Prop} (ha : a < 32) (h : ∀ r : Int32, (∀ i, i < 32 → (nn r).testBit i = if i = a then decide (j ≠ 0) else (nn S).testBit i) → Q r) : wp_X9_withOrWithout S (nI a) j Q := by
  refine ⟨fun c => h _ (fun i hi => ?_), fun c => h _ (fun i hi => ?_)⟩
  · rw [nn_and, nn_xor, nn_two a ha, show nn (-1) = 2 ^ 32 - 1 from by decide, Nat.testBit_and, Nat.testBit_xor, Nat.testBit_two_pow, Nat.testBit_two_pow_sub_one]
    by_cases e : i = a
    · subst e
      simp [hi, c]
    · have e2 : ¬ a = i := fun z => e z.symm
      simp [hi, e, e2]
  · rw [nn_or, nn_two a ha, Nat.testBit_or, Nat.testBit_two_pow]
    by_cases e : i = a
    · subst e
      simp [c]
    · have e2 : ¬ a = i := fun z => e z.symm
      simp [e, e2]
theorem OI.goal {L T : List Nat} {a : Nat} {r : Int32} {g : Bool} (hk : kd k2 = 5) (h : OI μ0 k2 gl f R L T a μ) (hg : g = gl (L.getD a 0)) (hr : ∀ i, i < 32 → (nn r).testBit i = if i = a then g else (nn (μ k2 2)).testBit i) : OI μ0 k2 gl f R L T (a + 1) (tms μ k2 2 r) := by
  have q5 := kd5 hk
  obtain ⟨h1, h2, h3, h4, h5, h6⟩ := h
  refine ⟨h1, ?_, fun i hi => ?_, fun j hj => ?_, fun i hi => ?_, fun k p q s => ?_⟩
  · rw [tms_eq, upd_ne (by decide)]; exact h2
  · rw [tms_ne (by omega)]; exact h3 i hi
  · rw [tms_ne (by omega)]; exact h4 j hj
  · rw [tms_eq, upd_at, hr i hi]
    by_cases e : i = a
    · rw [if_pos e, e, hg]
      simp
    · rw [if_neg e, h5 i hi]
      congr 1
      exact decide_eq_decide.mpr (by omega)
  · rw [tms_ne q]; exact h6 k p q s
theorem e_ow24 {n : Nat} {Q : Int32 → TMem → Prop} (hk1 : kd k1 = 2) (hk : kd k2 = 5) (hn : μ0 k1 1 = nI n) (hn32 : n ≤ 32) (ht : 3 * n ≤ tl (k1 + 1)) (hf : f = RC n (fun j => nn (μ0 (k1 + 1) j))) (hgl : gl = fun S => decide (S &&& nn (μ0 k1 2) ≠ 0))
    (hQ1 : ∀ (L T : List Nat) (μ9 : TMem), R = some (L, T) → OI μ0 k2 gl f R L T L.length μ9 → T.length = 3 * L.length → Q 1 μ9) (hQ : R = none → ∀ μ9, F17 k2 μ0 μ9 → Q 0 μ9) :
    ∀ (nf a : Nat) (L T : List Nat) (μ4 : TMem), 32 - a < nf → a ≤ L.length → T.length = 3 * a → OI μ0 k2 gl f R L T a μ4 → wpl_X3_makeOneWay_24 k1 k2 Q nf (nI a) μ4 := by
  have q5 := kd5 hk
  have q2 := kd2 hk1
  intro nf
  induction nf with
  | zero => intro a L T μ4 hk; exact absurd hk (Nat.not_lt_zero _)
  | succ nf ih =>
    intro a L T μ4 hnf ha hT hO
    have hO' := hO
    obtain ⟨h1, h2, h3, h4, h5, h6⟩ := hO'
    have hL := h1.2.1
    have fin : L.length ≤ a → Q 1 μ4 := fun c => by
      have e : a = L.length := by omega
      rw [e] at hO hT
      exact hQ1 L T μ4 (h1.done (Or.inl (by omega))) hO hT
    refine ⟨fun c => ?_, fun c => ⟨fun c2 => ?_, fun c2 => ?_⟩⟩
    · rw [show (32 : Int32) = nI 32 from rfl, nI_leI (by omega) (by omega)] at c
      exact fin (by omega)
    · rw [h2, nI_leI (by omega) (by omega)] at c2
      exact fin c2
    rw [h2, nI_leI (by omega) (by omega)] at c2
    refine e_row (k := 16) (show a < tl 17 by rw [show tl 17 = 32 from rfl]; omega) ?_
    have hx : nn (μ4 17 a) = L.getD a 0 := h3 a (by omega)
    have e1 : μ4 k1 = μ0 k1 := h6 k1 (by omega) (by omega) (by omega)
    intro J hJ
    have key : ∀ j : Int32, decide (j ≠ 0) = gl (L.getD a 0) → J j := fun j hj => hJ j (e_with (by omega) (fun r hr => by
      have g := e_ow78 (μ0 := μ0) (gl := gl) (R := R) (a := a) (x := μ4 17 a) (K := fun μ27 => wpl_X3_makeOneWay_24 k1 k2 Q nf (nI a + (1 : Int32)) μ27) (Q := Q) hk1 hk hn hn32 ht hf (fun L9 T9 μ9 z1 z2 z3 => by rw [nI_1]; exact ih (a + 1) L9 T9 μ9 (by omega) (by omega) z1 z3) hQ 4 0 L T (tms μ4 k2 2 r) (by omega) (by omega) hT (by omega) hx (hO.goal hk hj hr)
      rw [nI_0] at g
      exact ⟨_, g⟩))
    have eg : (nn (μ4 17 a &&& μ4 k1 2) = 0) ↔ gl (L.getD a 0) = false := by
      rw [nn_and, hx, e1, hgl]
      simp
    refine ⟨fun c => key 0 ?_, fun c => key 1 ?_⟩
    · have c' : nn (μ4 17 a &&& μ4 k1 2) = 0 := by rw [c]; exact nn_0
      rw [eg.mp c']
      rfl
    · have c' : ¬ nn (μ4 17 a &&& μ4 k1 2) = 0 := fun z => c (nn_inj (by rw [z, nn_0]))
      rw [eg] at c'
      cases q : gl (L.getD a 0) with
      | false => exact absurd q c'
      | true => rfl
abbrev DF := Nat × (Nat → Nat) × (Nat → Bool)
def DFo (L T : List Nat) (gl : Nat → Bool) : DF := (L.length, fun j => T.getD j 0, fun i => gl (L.getD i 0))
/-- the one-way one -/
def OWD (n : Nat) (c : Nat → Nat) (st G : Nat) : Option DF := (EX 32 (RC n c) (fun _ => false) st).map (fun p => DFo p.1 p.2 (fun S => decide (S &&& G ≠ 0)))
/-- the object k holds the one-way machine D -/
def HP (μ : TMem) (k : Nat) (D : DF) : Prop := 1 ≤ D.1 ∧ D.1 ≤ 32 ∧ (∀ j, j < 3 * D.1 → D.2.1 j < D.1) ∧ μ k 1 = nI D.1 ∧ (∀ j, j < 3 * D.1 → μ (k + 1) j = nI (D.2.1 j)) ∧ ∀ i, i < 32 → (nn (μ k 2)).testBit i = (decide (i < D.1) && D.2.2 i)
theorem e_makeOneWay {n : Nat} {Q : Int32 → TMem → Prop} (hk1 : kd k1 = 2) (hk : kd k2 = 5) (hn : μ k1 1 = nI n) (hn32 : n ≤ 32) (ht : 3 * n ≤ tl (k1 + 1)) (h1 : ∀ (D : DF) (μ9 : TMem), OWD n (fun j => nn (μ (k1 + 1) j)) (nn (μ k1 3)) (nn (μ k1 2)) = some D → HP μ9 k2 D → F17 k2 μ μ9 → Q 1 μ9) (h0 : OWD n (fun j => nn (μ (k1 + 1) j)) (nn (μ k1 3)) (nn (μ k1 2)) = none → ∀ μ9, F17 k2 μ μ9 → Q 0 μ9) : wp_X3_makeOneWay k1 k2 μ Q := by
  have q5 := kd5 hk
  have q2 := kd2 hk1
  show wp_X6_put 16 μ (nI 0) (μ k1 3) (fun μ1 => ∃ n1x, wpl_X3_makeOneWay_24 k1 k2 Q n1x (nI 0) (tms (tms μ1 k2 1 (nI 1)) k2 2 (0 : Int32)))
  refine e_rowput (k := 16) (by decide) ?_
  have g := e_ow24 (μ0 := μ) (k1 := k1) (k2 := k2) (n := n) (Q := Q) (R := EX 32 (RC n (fun j => nn (μ (k1 + 1) j))) (fun _ => false) (nn (μ k1 3))) hk1 hk hn hn32 ht rfl rfl (fun L T μ9 hR hO hT => by
      obtain ⟨z1, z2, z3, z4, z5, z6⟩ := hO
      refine h1 (DFo L T (fun S => decide (S &&& nn (μ k1 2) ≠ 0))) μ9 (by rw [OWD, hR]; rfl) ⟨z1.2.2.1, z1.2.1, fun j hj => (z1.2.2.2.2 j (by have : (DFo L T (fun S => decide (S &&& nn (μ k1 2) ≠ 0))).1 = L.length := rfl; omega)).1, z2, fun j hj => z4 j (by have : (DFo L T (fun S => decide (S &&& nn (μ k1 2) ≠ 0))).1 = L.length := rfl; omega), z5⟩ z6) (fun hR μ9 hF => h0 (by rw [OWD, hR]; rfl) μ9 hF) 33 0 [nn (μ k1 3)] [] (tms (tms (tms μ 17 0 (μ k1 3)) k2 1 (nI 1)) k2 2 (0 : Int32)) (by omega) (Nat.zero_le _) rfl ⟨EI.start _ (by decide), ?_, fun i hi => ?_, fun j hj => absurd hj (Nat.not_lt_zero _), fun i hi => ?_, fun k p q s => ?_⟩
  · exact ⟨_, g⟩
  · rw [tms_eq, upd_ne (by decide), tms_eq, upd_at]
    rfl
  · rw [tms_ne (by omega), tms_ne (by omega), tms_eq]
    simp at hi
    subst hi
    rw [upd_at]
    rfl
  · rw [tms_eq, upd_at, nn_0]
    simp
  · rw [tms_ne q, tms_ne q, tms_ne p]
end SOP
