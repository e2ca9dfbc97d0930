section SON
variable {μ : TMem} {k : Nat}
theorem tms_ne {i j : Nat} {v : Int32} (h : j ≠ k) : tms μ k i v j = μ j := by simp [tms, h]
theorem tms_eq {i : Nat} {v : Int32} : tms μ k i v k = upd (μ k) i v := by simp [tms]
theorem s_ne1 {a : Nat} (h : a < 2 ^ 31) : ¬ nI a = (-1 : Int32) := fun e => by
  have := congrArg Int32.toInt e
  rw [nI_toInt h, show (-1 : Int32).toInt = -1 from rfl] at this
  omega
theorem s_place (a b : Nat) : nI a * (3 : Int32) + nI b = nI (3 * a + b) := by
  rw [show (3 : Int32) = nI 3 from rfl, s_mul, nI_add, Nat.mul_comm]
theorem e_atN {a b : Nat} {Q : Int32 → Prop} (h3 : 3 * a + b < tl (k + 1)) (h : Q (μ (k + 1) (3 * a + b))) : wp_X7_at k μ (nI a) (nI b) Q := by
  have t2 := tlhi (k + 1)
  unfold wp_X7_at
  rw [s_place]
  refine ⟨fun c => absurd c (nI_pos (by omega)), fun _ => ⟨fun c => ?_, fun _ => ⟨s_in h3 (by omega), ?_⟩⟩⟩
  · rw [nI_leI (by omega) (by omega)] at c
    omega
  · rw [nI_clamp (by omega)]
    exact h
theorem e_putN {a b : Nat} {v : Int32} {Q : TMem → Prop} (h3 : 3 * a + b < tl (k + 1)) (h : Q (tms μ (k + 1) (3 * a + b) v)) : wp_X7_put k μ (nI a) (nI b) v Q := by
  have t2 := tlhi (k + 1)
  unfold wp_X7_put
  rw [s_place]
  refine ⟨fun c => absurd c (nI_pos (by omega)), fun _ => ⟨fun c => ?_, fun _ => ⟨s_in h3 (by omega), ?_⟩⟩⟩
  · rw [nI_leI (by omega) (by omega)] at c
    omega
  · rw [nI_clamp (by omega)]
    exact h
theorem e_row {a : Nat} {Q : Int32 → Prop} (h3 : a < tl (k + 1)) (h : Q (μ (k + 1) a)) : wp_X6_at k μ (nI a) Q := by
  have t2 := tlhi (k + 1)
  unfold wp_X6_at
  refine ⟨fun c => absurd c (nI_pos (by omega)), fun _ => ⟨fun c => ?_, fun _ => ⟨s_in h3 (by omega), ?_⟩⟩⟩
  · rw [nI_leI (by omega) (by omega)] at c
    omega
  · rw [nI_clamp (by omega)]
    exact h
theorem e_rowput {a : Nat} {v : Int32} {Q : TMem → Prop} (h3 : a < tl (k + 1)) (h : Q (tms μ (k + 1) a v)) : wp_X6_put k μ (nI a) v Q := by
  have t2 := tlhi (k + 1)
  unfold wp_X6_put
  refine ⟨fun c => absurd c (nI_pos (by omega)), fun _ => ⟨fun c => ?_, fun _ => ⟨s_in h3 (by omega), ?_⟩⟩⟩
  · rw [nI_leI (by omega) (by omega)] at c
    omega
  · rw [nI_clamp (by omega)]
    exact h
/-- the set to which arrows lead from a set, by the first i states -/
def RCg (c : Nat → Nat) (S s : Nat) : Nat → Nat
  | 0 => 0
  | i + 1 => if S.testBit i = true then RCg c S s i ||| c (3 * i + s) else RCg c S s i
def RC (n : Nat) (c : Nat → Nat) (S s : Nat) : Nat := RCg c S s n
theorem e_reach {n s : Nat} {x : Int32} {Q : Int32 → Prop} (hn : μ k 1 = nI n) (hn32 : n ≤ 32) (ht : 3 * n ≤ tl (k + 1)) (hs : s < 3) (h : ∀ r, nn r = RC n (fun j => nn (μ (k + 1) j)) (nn x) s → Q r) : wp_X2_reach k μ x (nI s) Q := by
  have L : ∀ (nf a : Nat) (v : Int32), n - a < nf → a ≤ n → nn v = RCg (fun j => nn (μ (k + 1) j)) (nn x) s a → wpl_X2_reach_5 k μ x (nI s) Q nf (nI a) v := by
    intro nf
    induction nf with
    | zero => intro a v hk; exact absurd hk (Nat.not_lt_zero _)
    | succ nf ih =>
      intro a v hk ha hv
      refine ⟨fun c => ?_, fun c => ?_⟩
      · rw [hn, nI_leI (by omega) (by omega)] at c
        have e : a = n := by omega
        rw [e] at hv
        exact h v hv
      rw [hn, nI_leI (by omega) (by omega)] at c
      refine ⟨fun z => ⟨fun _ => ?_, fun q => absurd rfl q⟩, fun z => ⟨fun q => absurd q (by decide), fun _ => e_atN (by omega) ?_⟩⟩
      · rw [s_isIn (by omega)] at z
        rw [nI_1]
        exact ih (a + 1) v (by omega) (by omega) (by rw [RCg, z]; simpa using hv)
      · rw [s_isIn (by omega)] at z
        rw [nI_1]
        exact ih (a + 1) _ (by omega) (by omega) (by rw [nn_or, RCg, if_pos (by simpa using z), hv])
  have g := L (n + 1) 0 0 (by omega) (Nat.zero_le _) nn_0
  rw [nI_0] at g
  exact ⟨_, g⟩
theorem e_find {L : List Nat} {x : Int32} {Q : Int32 → Prop} (hl : L.length ≤ tl (k + 1)) (hc : ∀ i, i < L.length → nn (μ (k + 1) i) = L.getD i 0) (h1 : nn x ∈ L → Q (nI (L.idxOf (nn x)))) (h0 : nn x ∉ L → Q (-1)) : wp_X6_find k μ x (nI L.length) Q := by
  have t2 := tlhi (k + 1)
  have go : ∀ (nf a : Nat), L.length - a < nf → a ≤ L.length → (∀ j, j < a → L.getD j 0 ≠ nn x) → wpl_X6_find_2 k μ x (nI L.length) Q nf (nI a) := by
    intro nf
    induction nf with
    | zero => intro a hk; exact absurd hk (Nat.not_lt_zero _)
    | succ nf ih =>
      intro a hk ha hno
      refine ⟨fun c => ?_, fun c => ?_⟩
      · rw [nI_leI (by omega) (by omega)] at c
        exact h0 (not_mem_of (fun j hj => hno j (by omega)))
      rw [nI_leI (by omega) (by omega)] at c
      refine ⟨fun c2 => ?_, fun c2 => ⟨s_in (by omega) (by omega), ?_⟩⟩
      · rw [nI_leI (by omega) (by omega)] at c2
        omega
      have e := hc a (by omega)
      rw [nI_clamp (by omega), nI_1]
      refine ⟨fun z => ?_, fun z => ?_⟩
      · refine ih (a + 1) (by omega) (by omega) (fun j hj => ?_)
        by_cases q : j = a
        · rw [q, ← e]
          exact fun w => z (nn_inj w)
        · exact hno j (by omega)
      · have e2 : L.getD a 0 = nn x := by rw [← e, z]
        have e3 := idx_of (by omega) e2 hno
        have g := h1 (e2 ▸ getD_mem (by omega))
        rw [e3] at g
        exact g
  have g := go (L.length + 1) 0 (by omega) (Nat.zero_le _) (fun j hj => absurd hj (Nat.not_lt_zero _))
  rw [nI_0] at g
  exact ⟨_, g⟩
theorem kd5 {k2 : Nat} (h : kd k2 = 5) : (k2 = 33 ∨ k2 = 51 ∨ k2 = 53 ∨ k2 = 55 ∨ k2 = 57) ∧ tl (k2 + 1) = 96 := by
  have h1 : ∀ j : Nat, j < 59 → kd j = 5 → (j = 33 ∨ j = 51 ∨ j = 53 ∨ j = 55 ∨ j = 57) ∧ tl (j + 1) = 96 := by decide
  by_cases e : k2 < 59
  · exact h1 k2 e h
  · have h9 : kd k2 = 99 := by
      unfold kd
      rw [List.getD_eq_getElem?_getD, List.getElem?_eq_none (by simp [tkl]; omega)]
      rfl
    rw [h9] at h
    exact absurd h (by decide)
theorem kd2 {k1 : Nat} (h : kd k1 = 2) : (k1 = 2 ∨ k1 = 4 ∨ k1 = 6 ∨ k1 = 8 ∨ k1 = 10 ∨ k1 = 12 ∨ k1 = 29 ∨ k1 = 31) := by
  have h1 : ∀ j : Nat, j < 59 → kd j = 2 → (j = 2 ∨ j = 4 ∨ j = 6 ∨ j = 8 ∨ j = 10 ∨ j = 12 ∨ j = 29 ∨ j = 31) := by decide
  by_cases e : k1 < 59
  · exact h1 k1 e h
  · have h9 : kd k1 = 99 := by
      unfold kd
      rw [List.getD_eq_getElem?_getD, List.getElem?_eq_none (by simp [tkl]; omega)]
      rfl
    rw [h9] at h
    exact absurd h (by decide)
variable {k2 : Nat}
theorem e_numberOf {L : List Nat} {x : Int32} {Q : Int32 → TMem → Prop} (hk : kd k2 = 5) (hz : μ k2 1 = nI L.length) (hl : L.length ≤ 32) (hc : ∀ i, i < L.length → nn (μ 17 i) = L.getD i 0) (h1 : nn x ∈ L → Q (nI (L.idxOf (nn x))) μ) (h2 : nn x ∉ L → 32 ≤ L.length → Q (-1) μ) (h3 : nn x ∉ L → ¬ 32 ≤ L.length → Q (nI L.length) (tms (tms μ 17 L.length x) k2 1 (nI (L.length + 1)))) : wp_X3_numberOf k2 μ x Q := by
  have q5 := kd5 hk
  unfold wp_X3_numberOf
  rw [hz]
  refine e_find (k := 16) (L := L) (show L.length ≤ tl 17 from hl) hc (fun m => ⟨fun _ => h1 m, fun z => absurd z (s_ne1 (by have := idx_lt m; omega))⟩) (fun m => ⟨fun z => absurd rfl z, fun _ => ⟨fun c => ?_, fun c => ?_⟩⟩)
  · rw [show (32 : Int32) = nI 32 from rfl, nI_ltI (by omega) (by omega)] at c
    refine e_rowput (k := 16) (show L.length < tl 17 from c) ?_
    show Q (((tms (tms μ 17 L.length x) k2 1 (((tms μ 17 L.length x) k2 1) + (1 : Int32))) k2 1) - (1 : Int32)) (tms (tms μ 17 L.length x) k2 1 (((tms μ 17 L.length x) k2 1) + (1 : Int32)))
    have e6 : (tms μ 17 L.length x) k2 1 = nI L.length := by rw [tms_ne (by omega)]; exact hz
    rw [e6, nI_1, tms_eq, upd_at, nI_pred]
    exact h3 m (by omega)
  · rw [show (32 : Int32) = nI 32 from rfl, nI_ltI (by omega) (by omega)] at c
    exact h2 m (by omega)
/-- where making a one-way one stands: a' rows have their goal flag -/
def OI (μ0 : TMem) (k2 : Nat) (gl : Nat → Bool) (f : Nat → Nat → Nat) (R : Option (List Nat × List Nat)) (L T : List Nat) (a' : Nat) (μ : TMem) : Prop :=
  EI 32 f (fun _ => false) R L T ∧ μ k2 1 = nI L.length ∧ (∀ i, i < L.length → nn (μ 17 i) = L.getD i 0) ∧ (∀ j, j < T.length → μ (k2 + 1) j = nI (T.getD j 0)) ∧ (∀ i, i < 32 → (nn (μ k2 2)).testBit i = (decide (i < a') && gl (L.getD i 0))) ∧ ∀ k, k ≠ 17 → k ≠ k2 → k ≠ k2 + 1 → μ k = μ0 k
variable {μ0 : TMem} {gl : Nat → Bool} {f : Nat → Nat → Nat} {R : Option (List Nat × List Nat)} {L T : List Nat} {a' : Nat}
theorem OI.old (hk : kd k2 = 5) (h : OI μ0 k2 gl f R L T a' μ) (hd : ¬ 3 * L.length ≤ T.length) (hm : nxt f L T ∈ L) : OI μ0 k2 gl f R L (T ++ [L.idxOf (nxt f L T)]) a' (tms μ (k2 + 1) T.length (nI (L.idxOf (nxt f L T)))) := by
  have q5 := kd5 hk
  obtain ⟨h1, h2, h3, h4, h5, h6⟩ := h
  refine ⟨h1.old (fun z => z.elim hd (fun z => by cases z)) hm, ?_, fun i hi => ?_, fun j hj => ?_, fun i hi => ?_, fun k a b c => ?_⟩
  · rw [tms_ne (by omega)]; exact h2
  · rw [tms_ne (by omega)]; exact h3 i hi
  · rw [tms_eq]
    rw [List.length_append] at hj
    simp at hj
    by_cases e : j = T.length
    · rw [e, upd_at, getD_new]
    · rw [upd_ne e, getD_app (by omega)]
      exact h4 j (by omega)
  · rw [tms_ne (by omega)]; exact h5 i hi
  · rw [tms_ne c]; exact h6 k a b c
theorem OI.new {x : Int32} (hk : kd k2 = 5) (h : OI μ0 k2 gl f R L T a' μ) (hd : ¬ 3 * L.length ≤ T.length) (hm : nxt f L T ∉ L) (hl : ¬ 32 ≤ L.length) (ha : a' ≤ L.length) (hx : nn x = nxt f L T) : OI μ0 k2 gl f R (L ++ [nxt f L T]) (T ++ [L.length]) a' (tms (tms (tms μ 17 L.length x) k2 1 (nI (L.length + 1))) (k2 + 1) T.length (nI L.length)) := by
  have q5 := kd5 hk
  obtain ⟨h1, h2, h3, h4, h5, h6⟩ := h
  refine ⟨h1.new (fun z => z.elim hd (fun z => by cases z)) hm hl, ?_, fun i hi => ?_, fun j hj => ?_, fun i hi => ?_, fun k a b c => ?_⟩
  · rw [tms_ne (by omega), tms_eq, upd_at, List.length_append]
    rfl
  · rw [tms_ne (by omega), tms_ne (by omega), tms_eq]
    rw [List.length_append] at hi
    simp at hi
    by_cases e : i = L.length
    · rw [e, upd_at, getD_new, hx]
    · rw [upd_ne e, getD_app (by omega)]
      exact h3 i (by omega)
  · rw [tms_eq]
    rw [List.length_append] at hj
    simp at hj
    by_cases e : j = T.length
    · rw [e, upd_at, getD_new]
    · rw [upd_ne e, getD_app (by omega), tms_ne (by omega), tms_ne (by omega)]
      exact h4 j (by omega)
  · rw [tms_ne (by omega), tms_eq, upd_ne (by decide), tms_ne (by omega), h5 i hi]
    by_cases e : i < a'
    · rw [getD_app (by omega)]
    · simp [e]
  · rw [tms_ne c, tms_ne b, tms_ne a]; exact h6 k a b c
end SON
