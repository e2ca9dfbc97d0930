section SGR
variable {μ μ0 : TMem} {k k1 k2 : Nat} {D : DF}
theorem nodup_le : ∀ (n : Nat) (L : List Nat), L.Nodup → (∀ x ∈ L, x < n) → L.length ≤ n := by
  intro n
  induction n with
  | zero => intro L _ h; cases L with
            | nil => exact Nat.le_refl _
            | cons a l => exact absurd (h a List.mem_cons_self) (Nat.not_lt_zero _)
  | succ n ih =>
    intro L hd h
    by_cases e : n ∈ L
    · have h1 := ih (L.erase n) (hd.erase n) (fun x hx => by
        have := (hd.mem_erase_iff).mp hx
        have := h x this.2
        omega)
      rw [List.length_erase_of_mem e] at h1
      omega
    · have := ih L hd (fun x hx => by
        have h1 := h x hx
        have h2 : x ≠ n := fun q => e (q ▸ hx)
        omega)
      omega
theorem nodup_app {L : List Nat} {x : Nat} (h : L.Nodup) (hx : x ∉ L) : (L ++ [x]).Nodup := by
  rw [List.nodup_append]
  refine ⟨h, by simp, fun a ha b hb e => ?_⟩
  simp at hb
  exact hx (by rw [← hb, ← e]; exact ha)
theorem idx_app {L : List Nat} {x p : Nat} (h : p ∈ L) : (L ++ [x]).idxOf p = L.idxOf p := by
  rw [List.idxOf_append, if_pos h]
theorem idx_app_new {L : List Nat} {x : Nat} (h : x ∉ L) : (L ++ [x]).idxOf x = L.length := by
  rw [List.idxOf_append, if_neg h]
  simp
theorem e_fill {v : Int32} {Q : TMem → Prop} (h : ∀ μ9 : TMem, (∀ i, i < tl (k + 1) → μ9 (k + 1) i = v) → (∀ j, j ≠ k + 1 → μ9 j = μ j) → Q μ9) : wp_X6_fill k μ v Q := by
  have t2 := tlhi (k + 1)
  have go : ∀ (nf a : Nat) (μ1 : TMem), tl (k + 1) - a < nf → a ≤ tl (k + 1) → (∀ i, i < a → μ1 (k + 1) i = v) → (∀ j, j ≠ k + 1 → μ1 j = μ j) → wpl_X6_fill_2 k v Q nf (nI a) μ1 := by
    intro nf
    induction nf with
    | zero => intro a μ1 hk; exact absurd hk (Nat.not_lt_zero _)
    | succ nf ih =>
      intro a μ1 hk ha h1 h2
      refine ⟨fun c => ?_, fun c => ?_⟩
      · rw [nI_leI (by omega) (by omega)] at c
        exact h μ1 (fun i hi => h1 i (by omega)) h2
      rw [nI_leI (by omega) (by omega)] at c
      refine ⟨s_in (by omega) (by omega), ?_⟩
      rw [nI_clamp (by omega), nI_1]
      refine ih (a + 1) _ (by omega) (by omega) (fun i hi => ?_) (fun j hj => ?_)
      · rw [tms_eq]
        by_cases e : i = a
        · rw [e, upd_at]
        · rw [upd_ne e]
          exact h1 i (by omega)
      · rw [tms_ne hj]
        exact h2 j hj
  have g := go (tl (k + 1) + 1) 0 μ (by omega) (Nat.zero_le _) (fun i hi => absurd hi (Nat.not_lt_zero _)) (fun _ _ => rfl)
  rw [nI_0] at g
  exact ⟨_, g⟩
/-- what the least one's exploring asks -/
def fL (D : DF) : Nat → Nat → Nat := fun l s => PL D (D.2.1 (3 * l + s))
theorem fL_of (hT : ∀ j, j < 3 * D.1 → D.2.1 j < D.1) (h1 : 1 ≤ D.1) {m l s : Nat} (hm : m < D.1) (hl : PL D m = l) (hs : s < 3) : PL D (D.2.1 (3 * m + s)) = fL D l s := by
  have hl2 : l < D.1 := hl ▸ PL_lt hm
  have e : PL D m = PL D l := by rw [← hl, PL_id]
  exact ((PL_stb hT h1 hm hl2).mp e).2.2 s hs
theorem gL_of (hT : ∀ j, j < 3 * D.1 → D.2.1 j < D.1) (h1 : 1 ≤ D.1) {m l : Nat} (hm : m < D.1) (hl : PL D m = l) : D.2.2 m = D.2.2 l := by
  have hl2 : l < D.1 := hl ▸ PL_lt hm
  have e : PL D m = PL D l := by rw [← hl, PL_id]
  exact ((PL_stb hT h1 hm hl2).mp e).1
def EN (n : Nat) (L : List Nat) : Prop := L.Nodup ∧ ∀ x ∈ L, x < n
theorem EN.app {n x : Nat} {L : List Nat} (h : EN n L) (hx : x ∉ L) (hn : x < n) : EN n (L ++ [x]) := ⟨nodup_app h.1 hx, fun y hy => by
  rw [List.mem_append] at hy
  rcases hy with hy | hy
  · exact h.2 y hy
  · simp at hy
    omega⟩
theorem EN.room {n x : Nat} {L : List Nat} (h : EN n L) (hx : x ∉ L) (hn : x < n) : L.length < n := by
  have := nodup_le n _ (h.app hx hn).1 (h.app hx hn).2
  rw [List.length_append] at this
  simp at this
  omega
/-- where making groups stands -/
def GI (μ0 : TMem) (k2 : Nat) (D : DF) (R : Option (List Nat × List Nat)) (L T : List Nat) (a' : Nat) (μ : TMem) : Prop :=
  EI 32 (fL D) (fun _ => false) R L T ∧ EN D.1 L ∧ μ k2 1 = nI L.length ∧ (∀ i, i < L.length → ∃ m, m < D.1 ∧ μ 19 i = nI m ∧ PL D m = L.getD i 0) ∧ (∀ p, p < D.1 → μ 21 p = if p ∈ L then nI (L.idxOf p) else (-1 : Int32)) ∧ (∀ j, j < T.length → μ (k2 + 1) j = nI (T.getD j 0)) ∧ (∀ i, i < 32 → (nn (μ k2 2)).testBit i = (decide (i < a') && D.2.2 (L.getD i 0))) ∧ ∀ k, k ≠ 19 → k ≠ 21 → k ≠ k2 → k ≠ k2 + 1 → μ k = μ0 k
variable {R : Option (List Nat × List Nat)} {L T : List Nat} {a' : Nat}
theorem e_group {m : Nat} {Q : Int32 → TMem → Prop} (hk : kd k2 = 5) (h32 : D.1 ≤ 32) (hp : ∀ i, i < D.1 → μ 24 i = nI (PL D i)) (hm : m < D.1) (hz : μ k2 1 = nI L.length) (hl : L.length ≤ 32) (hn : ∀ p, p < D.1 → μ 21 p = if p ∈ L then nI (L.idxOf p) else (-1 : Int32)) (hr : PL D m ∉ L → L.length < 32) (h1 : PL D m ∈ L → Q (nI (L.idxOf (PL D m))) μ) (h2 : PL D m ∉ L → Q (nI L.length) (tms (tms (tms μ 21 (PL D m) (nI L.length)) 19 L.length (nI m)) k2 1 (nI (L.length + 1)))) : wp_X3_groupNumber k2 μ (nI m) Q := by
  have q5 := kd5 hk
  have lp := PL_lt hm
  have t1 : tl 21 = 32 := rfl
  have t2 : tl 19 = 32 := rfl
  have t3 : tl 24 = 32 := rfl
  refine e_row (k := 23) (show m < tl 24 by omega) ?_
  show wp_X6_at 20 μ (μ 24 m) _
  rw [hp m hm]
  refine e_row (k := 20) (show PL D m < tl 21 by omega) ?_
  intro J hJ
  have en := hn _ lp
  by_cases c : PL D m ∈ L
  · rw [if_pos c] at en
    have il := idx_lt c
    refine ⟨fun _ => e_row (k := 20) (show PL D m < tl 21 by omega) ?_, fun z => absurd ((show nI (L.idxOf (PL D m)) = (-1 : Int32) by rw [← en]; exact z)) (s_ne1 (by omega))⟩
    show Q (μ 21 (PL D m)) μ
    rw [en]
    exact h1 c
  · rw [if_neg c] at en
    have hl2 := hr c
    refine ⟨fun z => absurd (show μ 21 (PL D m) = (-1 : Int32) from en) z, fun _ => ?_⟩
    rw [hz]
    refine e_rowput (k := 20) (show PL D m < tl 21 by omega) ?_
    have e6 : (tms μ (20 + 1) (PL D m) (nI L.length)) k2 1 = nI L.length := by rw [tms_ne (by omega)]; exact hz
    rw [e6]
    refine e_rowput (k := 18) (show L.length < tl 19 by omega) ?_
    have e7 : (tms (tms μ (20 + 1) (PL D m) (nI L.length)) (18 + 1) L.length (nI m)) k2 1 = nI L.length := by rw [tms_ne (by omega)]; exact e6
    rw [e7, nI_1]
    refine hJ _ (e_row (k := 20) (show PL D m < tl 21 by omega) ?_)
    have e8 : (tms (tms (tms μ 21 (PL D m) (nI L.length)) 19 L.length (nI m)) k2 1 (nI (L.length + 1))) 21 (PL D m) = nI L.length := by rw [tms_ne (by omega), tms_ne (by decide), tms_eq, upd_at]
    show Q ((tms (tms (tms μ 21 (PL D m) (nI L.length)) 19 L.length (nI m)) k2 1 (nI (L.length + 1))) 21 (PL D m)) _
    rw [e8]
    exact h2 c
theorem GI.old (hk : kd k2 = 5) (h : GI μ0 k2 D R L T a' μ) (hd : ¬ 3 * L.length ≤ T.length) (hm : nxt (fL D) L T ∈ L) : GI μ0 k2 D R L (T ++ [L.idxOf (nxt (fL D) L T)]) a' (tms μ (k2 + 1) T.length (nI (L.idxOf (nxt (fL D) L T)))) := by
  have q5 := kd5 hk
  obtain ⟨h1, h0, h2, h3, h4, h5, h6, h7⟩ := h
  refine ⟨h1.old (fun z => z.elim hd (fun z => by cases z)) hm, h0, ?_, fun i hi => ?_, fun p hp => ?_, fun j hj => ?_, fun i hi => ?_, fun k a b c d => ?_⟩
  · rw [tms_ne (by omega)]; exact h2
  · rw [tms_ne (by omega)]; exact h3 i hi
  · rw [tms_ne (by omega)]; exact h4 p hp
  · rw [tms_eq]
    rw [List.length_append] at hj
    simp at hj
    by_cases e : j = T.length
    · rw [e, upd_at, getD_new]
    · rw [upd_ne e, getD_app (by omega)]
      exact h5 j (by omega)
  · rw [tms_ne (by omega)]; exact h6 i hi
  · rw [tms_ne d]; exact h7 k a b c d
theorem GI.new {m x : Nat} (hk : kd k2 = 5) (h : GI μ0 k2 D R L T a' μ) (hd : ¬ 3 * L.length ≤ T.length) (hx : x = nxt (fL D) L T) (hm : x ∉ L) (hl : ¬ 32 ≤ L.length) (ha : a' ≤ L.length) (hmD : m < D.1) (hpm : PL D m = x) : GI μ0 k2 D R (L ++ [x]) (T ++ [L.length]) a' (tms (tms (tms (tms μ 21 x (nI L.length)) 19 L.length (nI m)) k2 1 (nI (L.length + 1))) (k2 + 1) T.length (nI L.length)) := by
  have q5 := kd5 hk
  obtain ⟨h1, h0, h2, h3, h4, h5, h6, h7⟩ := h
  subst hx
  refine ⟨h1.new (fun z => z.elim hd (fun z => by cases z)) hm hl, h0.app hm (hpm ▸ PL_lt hmD), ?_, fun i hi => ?_, fun p hp => ?_, fun j hj => ?_, fun i hi => ?_, fun k a b c d => ?_⟩
  · rw [tms_ne (by omega), tms_eq, upd_at, List.length_append]
    rfl
  · rw [tms_ne (by omega), tms_ne (by omega), tms_eq]
    rw [List.length_append] at hi
    simp at hi
    by_cases e : i = L.length
    · exact ⟨m, hmD, by rw [e, upd_at], by rw [e, getD_new]; exact hpm⟩
    · rw [upd_ne e, getD_app (by omega), tms_ne (by decide)]
      exact h3 i (by omega)
  · rw [tms_ne (by omega), tms_ne (by omega), tms_ne (by decide), tms_eq]
    by_cases e : p = nxt (fL D) L T
    · rw [e, upd_at, if_pos (by simp), idx_app_new hm]
    · rw [upd_ne e, h4 p hp]
      by_cases c : p ∈ L
      · rw [if_pos c, if_pos (List.mem_append_left _ c), idx_app c]
      · rw [if_neg c, if_neg (fun z => (List.mem_append.mp z).elim c (fun w => e (by simpa using w)))]
  · rw [tms_eq]
    rw [List.length_append] at hj
    simp at hj
    by_cases e : j = T.length
    · rw [e, upd_at, getD_new]
    · rw [upd_ne e, getD_app (by omega), tms_ne (by omega), tms_ne (by omega), tms_ne (by omega)]
      exact h5 j (by omega)
  · rw [tms_ne (by omega), tms_eq, upd_ne (by decide), tms_ne (by omega), tms_ne (by omega), h6 i hi]
    by_cases e : i < a'
    · rw [getD_app (by omega)]
    · simp [e]
  · rw [tms_ne d, tms_ne c, tms_ne a, tms_ne b]; exact h7 k a b c d
theorem GI.goal {a : Nat} {r : Int32} {g : Bool} (hk : kd k2 = 5) (h : GI μ0 k2 D R L T a μ) (hg : g = D.2.2 (L.getD a 0)) (hr : ∀ i, i < 32 → (nn r).testBit i = if i = a then g else (nn (μ k2 2)).testBit i) : GI μ0 k2 D R L T (a + 1) (tms μ k2 2 r) := by
  have q5 := kd5 hk
  obtain ⟨h1, h0, h2, h3, h4, h5, h6, h7⟩ := h
  refine ⟨h1, h0, ?_, fun i hi => ?_, fun p hp => ?_, fun j hj => ?_, fun i hi => ?_, fun k p q s t => ?_⟩
  · rw [tms_eq, upd_ne (by decide)]; exact h2
  · rw [tms_ne (by omega)]; exact h3 i hi
  · rw [tms_ne (by omega)]; exact h4 p hp
  · rw [tms_ne (by omega)]; exact h5 j hj
  · rw [tms_eq, upd_at, hr i hi]
    by_cases e : i = a
    · rw [if_pos e, e, hg]
      simp
    · rw [if_neg e, h6 i hi]
      congr 1
      exact decide_eq_decide.mpr (by omega)
  · rw [tms_ne s]; exact h7 k p q s t
theorem e_gr90 {a m : Nat} {K : TMem → Prop} (hk1 : kd k1 = 5) (hk : kd k2 = 5) (h12 : k1 ≠ k2) (hP : HP μ0 k1 D) (hp : ∀ i, i < D.1 → μ0 24 i = nI (PL D i)) (hm : m < D.1)
    (hK : ∀ (L T : List Nat) (μ9 : TMem), T.length = 3 * (a + 1) → a < L.length → GI μ0 k2 D R L T (a + 1) μ9 → K μ9) :
    ∀ (nf b : Nat) (L T : List Nat) (μ17 : TMem), 3 - b < nf → b ≤ 3 → T.length = 3 * a + b → a < L.length → PL D m = L.getD a 0 → GI μ0 k2 D R L T (a + 1) μ17 → wpl_X3_makeGroups_90 k1 k2 (nI m) (nI a) K nf (nI b) μ17 := by
  have q1 := kd5 hk1
  have q5 := kd5 hk
  have hT' := hP.2.2.1
  have hD1 := hP.1
  have h32 := hP.2.1
  intro nf
  induction nf with
  | zero => intro b L T μ17 hk; exact absurd hk (Nat.not_lt_zero _)
  | succ nf ih =>
    intro b L T μ17 hnf hb hT ha hx hO
    have hO' := hO
    obtain ⟨h1, h0, h2, h3, h4, h5, h6, h7⟩ := hO'
    have hL := h1.2.1
    refine ⟨fun c => ?_, fun c => ?_⟩
    · rw [show (3 : Int32) = nI 3 from rfl, nI_leI (by omega) (by omega)] at c
      exact hK L T μ17 (by omega) ha hO
    rw [show (3 : Int32) = nI 3 from rfl, nI_leI (by omega) (by omega)] at c
    have hP1 : HP μ17 k1 D := hP.same (h7 k1 (by omega) (by omega) (by omega) (by omega)) (h7 (k1 + 1) (by omega) (by omega) (by omega) (by omega))
    have hp1 : ∀ i, i < D.1 → μ17 24 i = nI (PL D i) := fun i hi => by rw [h7 24 (by omega) (by omega) (by omega) (by omega)]; exact hp i hi
    have hd : ¬ 3 * L.length ≤ T.length := by omega
    have hq : 3 * a + b < tl (k2 + 1) := by rw [q5.2]; omega
    refine e_atN (show 3 * m + b < tl (k1 + 1) by rw [q1.2]; omega) ?_
    have lt' := hT' (3 * m + b) (by omega)
    rw [hP1.2.2.2.2.1 _ (by omega)]
    have er : PL D (D.2.1 (3 * m + b)) = nxt (fL D) L T := by rw [fL_of hT' hD1 hm hx (by omega), nxt, hT, show (3 * a + b) / 3 = a by omega, show (3 * a + b) % 3 = b by omega]
    have room : PL D (D.2.1 (3 * m + b)) ∉ L → L.length < 32 := fun z => Nat.lt_of_lt_of_le (h0.room z (PL_lt lt')) h32
    refine e_group (L := L) hk h32 hp1 lt' h2 h1.2.1 h4 room (fun q => ?_) (fun q => ?_)
    · rw [er] at q ⊢
      refine e_putN hq ?_
      rw [nI_1, ← hT]
      exact ih (b + 1) L _ _ (by omega) (by omega) (by rw [List.length_append]; simp; omega) ha hx (hO.old hk hd q)
    · have rm := room q
      refine e_putN hq ?_
      rw [nI_1, ← hT]
      exact ih (b + 1) (L ++ [PL D (D.2.1 (3 * m + b))]) _ _ (by omega) (by omega) (by rw [List.length_append]; simp; omega) (by rw [List.length_append]; simp; omega) (by rw [getD_app ha]; exact hx) (hO.new hk hd er q (by omega) (by omega) lt' rfl)
theorem e_gr45 {Q : TMem → Prop} (hk1 : kd k1 = 5) (hk : kd k2 = 5) (h12 : k1 ≠ k2) (hP : HP μ0 k1 D) (hp : ∀ i, i < D.1 → μ0 24 i = nI (PL D i))
    (hQ : ∀ (L T : List Nat) (μ9 : TMem), R = some (L, T) → GI μ0 k2 D R L T L.length μ9 → T.length = 3 * L.length → Q μ9) :
    ∀ (nf a : Nat) (L T : List Nat) (μ4 : TMem), 32 - a < nf → a ≤ L.length → T.length = 3 * a → GI μ0 k2 D R L T a μ4 → wpl_X3_makeGroups_45 k1 k2 Q nf (nI a) μ4 := by
  have q1 := kd5 hk1
  have q5 := kd5 hk
  have hT' := hP.2.2.1
  have hD1 := hP.1
  have h32 := hP.2.1
  intro nf
  induction nf with
  | zero => intro a L T μ4 hk; exact absurd hk (Nat.not_lt_zero _)
  | succ nf ih =>
    intro a L T μ4 hnf ha hT hO
    have hO' := hO
    obtain ⟨h1, h0, h2, h3, h4, h5, h6, h7⟩ := hO'
    have hL := h1.2.1
    have fin : L.length ≤ a → Q μ4 := fun c => by
      have e : a = L.length := by omega
      rw [e] at hO hT
      exact hQ L T μ4 (h1.done (Or.inl (by omega))) hO hT
    refine ⟨fun c => ?_, fun c => ⟨fun c2 => ?_, fun c2 => ?_⟩⟩
    · rw [show (32 : Int32) = nI 32 from rfl, nI_leI (by omega) (by omega)] at c
      exact fin (by omega)
    · rw [h2, nI_leI (by omega) (by omega)] at c2
      exact fin c2
    rw [h2, nI_leI (by omega) (by omega)] at c2
    refine e_row (k := 18) (show a < tl 19 by rw [show tl 19 = 32 from rfl]; omega) ?_
    obtain ⟨m, hm, em, pm⟩ := h3 a (by omega)
    show wp_X5_isGoal k1 μ4 (μ4 19 a) _
    rw [em]
    have hP1 : HP μ4 k1 D := hP.same (h7 k1 (by omega) (by omega) (by omega) (by omega)) (h7 (k1 + 1) (by omega) (by omega) (by omega) (by omega))
    refine e_goal hP1 hm (e_with (by omega) (fun r hr => ?_))
    have hb : decide (bi (D.2.2 m) ≠ 0) = D.2.2 (L.getD a 0) := by
      rw [gL_of hT' hD1 hm pm]
      cases D.2.2 (L.getD a 0) <;> decide
    have g := e_gr90 (μ0 := μ0) (R := R) (a := a) (m := m) (K := fun μ32 => wpl_X3_makeGroups_45 k1 k2 Q nf (nI a + (1 : Int32)) μ32) hk1 hk h12 hP hp hm (fun L9 T9 μ9 z1 z2 z3 => by rw [nI_1]; exact ih (a + 1) L9 T9 μ9 (by omega) (by omega) z1 z3) 4 0 L T (tms μ4 k2 2 r) (by omega) (by omega) hT (by omega) pm (hO.goal hk hb hr)
    rw [nI_0] at g
    exact ⟨_, g⟩
/-- the frame of making groups into k2, behind a parting -/
def FG (k2 : Nat) (μ μ9 : TMem) : Prop := ∀ k, k ≠ 19 → k ≠ 21 → k ≠ 24 → k ≠ 26 → k ≠ k2 → k ≠ k2 + 1 → μ9 k = μ k
theorem e_makeGroups {Q : TMem → Prop} (hk1 : kd k1 = 5) (hk : kd k2 = 5) (h12 : k1 ≠ k2) (hP : HP μ k1 D) (hp : ∀ i, i < D.1 → μ 24 i = nI (PL D i)) (hQ : ∀ (D' : DF) (μ9 : TMem), LSD D = some D' → HP μ9 k2 D' → FG k2 μ μ9 → Q μ9) : wp_X3_makeGroups k1 k2 μ Q := by
  have q1 := kd5 hk1
  have q5 := kd5 hk
  have hT' := hP.2.2.1
  have hD1 := hP.1
  have h32 := hP.2.1
  have l0 : PL D 0 < D.1 := PL_lt (by omega)
  have t1 : tl 21 = 32 := rfl
  refine e_fill (k := 20) (fun μ1 hf hr => ?_)
  show wp_X1_partOf μ1 (nI 0) _
  refine e_row (k := 23) (show 0 < tl 24 by decide) ?_
  show wp_X6_put 20 μ1 (μ1 24 0) (0 : Int32) _
  rw [hr 24 (by decide), hp 0 (by omega)]
  refine e_rowput (k := 20) (show PL D 0 < tl 21 by omega) ?_
  show wp_X6_put 18 _ (nI 0) (0 : Int32) _
  refine e_rowput (k := 18) (show 0 < tl 19 by decide) ?_
  have g := e_gr45 (μ0 := μ) (k1 := k1) (k2 := k2) (D := D) (Q := Q) (R := EX 32 (fL D) (fun _ => false) (PL D 0)) hk1 hk h12 hP hp (fun L T μ9 hR hO hT => by
      obtain ⟨z1, z0, z2, z3, z4, z5, z6, z7⟩ := hO
      refine hQ (DFo L T D.2.2) μ9 (by unfold fL at hR; rw [LSD, hR]; rfl) ⟨z1.2.2.1, z1.2.1, fun j hj => (z1.2.2.2.2 j (by have : (DFo L T D.2.2).1 = L.length := rfl; omega)).1, z2, fun j hj => z5 j (by have : (DFo L T D.2.2).1 = L.length := rfl; omega), z6⟩ (fun k a b c d e f => z7 k a b e f)) 33 0 [PL D 0] [] (tms (tms (tms (tms μ1 21 (PL D 0) (0 : Int32)) 19 0 (0 : Int32)) k2 1 (nI 1)) k2 2 (0 : Int32)) (by omega) (Nat.zero_le _) rfl ⟨EI.start _ (by decide), ⟨by simp, fun x hx => by simp at hx; omega⟩, ?_, fun i hi => ?_, fun p hp2 => ?_, fun j hj => absurd hj (Nat.not_lt_zero _), fun i hi => ?_, fun k a b c d => ?_⟩
  · rw [nI_0] at g
    exact ⟨_, g⟩
  · rw [tms_eq, upd_ne (by decide), tms_eq, upd_at]
    rfl
  · rw [tms_ne (by omega), tms_ne (by omega), tms_eq]
    simp at hi
    subst hi
    exact ⟨0, by omega, by rw [upd_at]; rfl, rfl⟩
  · rw [tms_ne (by omega), tms_ne (by omega), tms_ne (by decide), tms_eq]
    by_cases e : p = PL D 0
    · rw [e, upd_at, if_pos (by simp)]
      simp [nI_0]
    · rw [upd_ne e, if_neg (by simpa using e)]
      exact hf p (by show p < tl 21; omega)
  · rw [tms_eq, upd_at, nn_0]
    simp
  · rw [tms_ne c, tms_ne c, tms_ne a, tms_ne b]
    exact hr k b
theorem e_lessen {Q : TMem → Prop} (hk1 : kd k1 = 5) (hk : kd k2 = 5) (h12 : k1 ≠ k2) (hP : HP μ k1 D) (hQ : ∀ (D' : DF) (μ9 : TMem), LSD D = some D' → HP μ9 k2 D' → FG k2 μ μ9 → Q μ9) : wp_X3_lessen k1 k2 μ Q := by
  have q1 := kd5 hk1
  have q5 := kd5 hk
  refine e_findByParting hk1 hP (fun μ1 hp hf => e_makeGroups hk1 hk h12 (hP.f2 hf (by omega)) hp (fun D' μ9 hD hH hF => hQ D' μ9 hD hH (fun k a b c d e f => (hF k a b c d e f).trans (hf k c d))))
end SGR
