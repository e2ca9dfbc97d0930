section SIMW
variable {μ ν : TMem} {S : Nat → AM} {a r k t : Int32} {a1 a2 a3 a4 a5 : Int32} {m m' : Nat} {A B : AM} {D D1 D2 : DF} {Q : Int32 → TMem → Prop} {X : String → TMem → Prop} {Qi : Int32 → Prop} {Qo : Option AI → Prop} {P : PP}
/-- how many words of a length lead from a state to a goal -/
def WYS (D : DF) : Nat → Nat → Int32
  | 0, i => bi (D.2.2 i)
  | l + 1, i => ((0 + WYS D l (D.2.1 (3 * i))) + WYS D l (D.2.1 (3 * i + 1))) + WYS D l (D.2.1 (3 * i + 2))
theorem e_from {l i : Nat} (hl : l ≤ 12) (hi : i < 32) (h : Qi (μ 50 (32 * l + i))) : wp_X8_from μ (nI i) (nI l) Qi := by
  unfold wp_X8_from
  rw [show (32 : Int32) = nI 32 from rfl, s_mul, nI_add, Nat.mul_comm l 32]
  exact e_row (k := 49) (show _ < 416 by omega) h
theorem e_sumOver {l i : Nat} (hP : HP μ 57 D) (hl : l ≤ 11) (hi : i < D.1) (hw : ∀ x, x < D.1 → μ 50 (32 * l + x) = WYS D l x) (h : Qi (WYS D (l + 1) i)) : wp_X8_sumOver 57 μ (nI i) (nI l) Qi := by
  have d32 := hP.2.1
  have hT := hP.2.2.1
  have hc := hP.2.2.2.2.1
  have t58 : tl 58 = 96 := rfl
  have st : ∀ (s : Nat) (v : Int32) (nf : Nat), s < 3 → wpl_X8_sumOver_6 57 μ (nI i) (nI l) Qi nf (nI (s + 1)) (v + WYS D l (D.2.1 (3 * i + s))) → wpl_X8_sumOver_6 57 μ (nI i) (nI l) Qi (nf + 1) (nI s) v := by
    intro s v nf hs g
    refine ⟨fun c => ?_, fun c => e_atN (k := 57) (show _ < 96 by omega) ?_⟩
    · rw [show (3 : Int32) = nI 3 from rfl, nI_leI (by omega) (by omega)] at c
      omega
    · have := hT (3 * i + s) (by omega)
      rw [hc _ (by omega)]
      refine e_from (by omega) (by omega) ?_
      rw [hw _ this, nI_1]
      exact g
  refine ⟨4, ?_⟩
  have g := st 0 0 3 (by omega) (st 1 _ 2 (by omega) (st 2 _ 1 (by omega) ⟨fun _ => h, fun c => absurd (show (3 : Int32) ≤ nI 3 by decide) c⟩))
  exact g
theorem e_tails {Qv : TMem → Prop} (hP : HP μ 57 D) (h : ∀ μ9 : TMem, (∀ l i, l ≤ 12 → i < D.1 → μ9 50 (32 * l + i) = WYS D l i) → (∀ k, k ≠ 50 → μ9 k = μ k) → Qv μ9) : wp_X8_count 57 μ Qv := by
  have d1 := hP.1
  have d32 := hP.2.1
  have t50 : tl 50 = 416 := rfl
  have same : ∀ {μ1 : TMem}, (∀ k, k ≠ 50 → μ1 k = μ k) → HP μ1 57 D := fun hf => hP.same (hf 57 (by decide)) (hf 58 (by decide))
  have L47 : ∀ (l : Nat) (K : TMem → Prop), l + 1 ≤ 12 → (∀ μ1 : TMem, (∀ x i, x ≤ l + 1 → i < D.1 → μ1 50 (32 * x + i) = WYS D x i) → (∀ k, k ≠ 50 → μ1 k = μ k) → K μ1) → ∀ (nf i : Nat) (μ1 : TMem), D.1 - i < nf → i ≤ D.1 → (∀ x j, x ≤ l → j < D.1 → μ1 50 (32 * x + j) = WYS D x j) → (∀ j, j < i → μ1 50 (32 * (l + 1) + j) = WYS D (l + 1) j) → (∀ k, k ≠ 50 → μ1 k = μ k) → wpl_X8_count_47 57 (nI (l + 1)) K nf (nI i) μ1 := by
    intro l K hl hK nf
    induction nf with
    | zero => intro i μ1 hk; exact absurd hk (Nat.not_lt_zero _)
    | succ nf ih =>
      intro i μ1 hk hi h1 h2 hf
      have hP1 := same hf
      refine ⟨fun c => ?_, fun c => ?_⟩
      · rw [hP1.2.2.2.1, nI_leI (by omega) (by omega)] at c
        refine hK μ1 (fun x j hx hj => ?_) hf
        by_cases e : x = l + 1
        · rw [e]; exact h2 j (by omega)
        · exact h1 x j (by omega) hj
      rw [hP1.2.2.2.1, nI_leI (by omega) (by omega)] at c
      rw [show (1 : Int32) = nI 1 from rfl, s_sub (by omega) (by omega), show l + 1 - 1 = l by omega]
      refine e_sumOver hP1 (by omega) (by omega) (fun x hx => h1 l x (Nat.le_refl _) hx) ?_
      rw [show (32 : Int32) = nI 32 from rfl, s_mul, nI_add, Nat.mul_comm (l + 1) 32]
      refine e_rowput (k := 49) (show _ < 416 by omega) ?_
      rw [nI_add]
      refine ih (i + 1) _ (by omega) (by omega) (fun x j hx hj => ?_) (fun j hj => ?_) (fun k hk => by rw [tms_ne hk]; exact hf k hk)
      · rw [tms_eq, upd_ne (by omega)]
        exact h1 x j hx hj
      · by_cases e : j = i
        · rw [e, tms_eq, upd_at]
        · rw [tms_eq, upd_ne (by omega)]
          exact h2 j (by omega)
  have L39 : ∀ (nf l : Nat) (μ1 : TMem), 12 - l < nf → l ≤ 12 → (∀ x j, x ≤ l → j < D.1 → μ1 50 (32 * x + j) = WYS D x j) → (∀ k, k ≠ 50 → μ1 k = μ k) → wpl_X8_count_39 57 Qv nf (nI (l + 1)) μ1 := by
    intro nf
    induction nf with
    | zero => intro l μ1 hk; exact absurd hk (Nat.not_lt_zero _)
    | succ nf ih =>
      intro l μ1 hk hl h1 hf
      refine ⟨fun c => ?_, fun c => ?_⟩
      · rw [show (12 : Int32) = nI 12 from rfl, nI_ltI (by omega) (by omega)] at c
        exact h μ1 (fun x j hx hj => h1 x j (by omega) hj) hf
      rw [show (12 : Int32) = nI 12 from rfl, nI_ltI (by omega) (by omega)] at c
      have g := L47 l (fun μ28 => wpl_X8_count_39 57 Qv nf (nI (l + 1) + (1 : Int32)) μ28) (by omega) (fun μ2 h2 hf2 => by rw [nI_1]; exact ih (l + 1) μ2 (by omega) (by omega) h2 hf2) (D.1 + 1) 0 μ1 (by omega) (Nat.zero_le _) h1 (fun j hj => absurd hj (Nat.not_lt_zero _)) hf
      rw [nI_0] at g
      exact ⟨_, g⟩
  have L2 : ∀ (nf i : Nat) (μ1 : TMem), D.1 - i < nf → i ≤ D.1 → (∀ j, j < i → μ1 50 j = WYS D 0 j) → (∀ k, k ≠ 50 → μ1 k = μ k) → wpl_X8_count_2 57 (fun μ13 => ∃ n13x, wpl_X8_count_39 57 Qv n13x (1 : Int32) μ13) nf (nI i) μ1 := by
    intro nf
    induction nf with
    | zero => intro i μ1 hk; exact absurd hk (Nat.not_lt_zero _)
    | succ nf ih =>
      intro i μ1 hk hi h1 hf
      have hP1 := same hf
      refine ⟨fun c => ?_, fun c => ?_⟩
      · rw [hP1.2.2.2.1, nI_leI (by omega) (by omega)] at c
        exact ⟨_, L39 13 0 μ1 (by omega) (by omega) (fun x j hx hj => by rw [show x = 0 by omega, show 32 * 0 + j = j by omega]; exact h1 j (by omega)) hf⟩
      rw [hP1.2.2.2.1, nI_leI (by omega) (by omega)] at c
      refine e_goal hP1 (by omega) (fun J hJ => ?_)
      have go : ∀ j9 : Int32, j9 = WYS D 0 i → J j9 := fun j9 e => hJ _ (e_rowput (k := 49) (show _ < 416 by omega) (by
        rw [nI_1]
        refine ih (i + 1) _ (by omega) (by omega) (fun j hj => ?_) (fun k hk => by rw [tms_ne hk]; exact hf k hk)
        by_cases e2 : j = i
        · rw [e2, tms_eq, upd_at, e]
        · rw [tms_eq, upd_ne (by omega)]
          exact h1 j (by omega)))
      refine ⟨fun z => go 0 ?_, fun z => go 1 ?_⟩
      · rw [WYS, z]
      · rw [WYS]
        cases e : D.2.2 i with
        | true => rfl
        | false => rw [e] at z; exact absurd rfl z
  have g := L2 (D.1 + 1) 0 μ (by omega) (Nat.zero_le _) (fun j hj => absurd hj (Nat.not_lt_zero _)) (fun _ _ => rfl)
  rw [nI_0] at g
  exact ⟨_, g⟩
theorem ltm {x y i n : Nat} (h : x < y) (hi : i < n) : x * n + i < y * n := Nat.lt_of_lt_of_le (show x * n + i < (x + 1) * n by rw [Nat.succ_mul]; omega) (Nat.mul_le_mul_right n h)
theorem rr_ways {l nf : Nat} {f : Nat → Int32} {Qa : Nat → (Nat → Int32) → Prop} (hF : HF nf f D) (hl : l ≤ 12) (h : ∀ (n : Nat) (g : Nat → Int32), l * D.1 < n → g (l * D.1) = WYS D l 0 → Qa n g) : wp_X11_ways nf f (nI l) Qa := by
  obtain ⟨h1, h2, h3, h4, h5, h6⟩ := hF
  have e4 : (nI nf) / (4 : Int32) = nI D.1 := by
    rw [show (4 : Int32) = nI 4 from rfl, s_div (by decide) (by omega) (by decide), h4, Nat.mul_div_cancel_left _ (by decide)]
  have b12 : ∀ x, x ≤ 13 → x * D.1 ≤ 416 := fun x hx => Nat.le_trans (Nat.mul_le_mul hx h2) (by decide)
  have eN : (nI D.1) * (nI l + (1 : Int32)) = nI ((l + 1) * D.1) := by rw [nI_1, s_mul, Nat.mul_comm]
  have bN := b12 (l + 1) (by omega)
  unfold wp_X11_ways
  rw [e4, eN, nI_clamp (by omega)]
  refine ⟨⟨nI_pos (by omega), bN⟩, ?_⟩
  have L25 : ∀ (x : Nat) (K : (Nat → Int32) → Prop) (v14 : Int32), x ≤ l → (∀ g : Nat → Int32, (∀ y i, y ≤ x → i < D.1 → g (y * D.1 + i) = WYS D y i) → K g) → ∀ (z i : Nat) (g : Nat → Int32), D.1 - i < z → i ≤ D.1 → (∀ y j, y < x → j < D.1 → g (y * D.1 + j) = WYS D y j) → (∀ j, j < i → g (x * D.1 + j) = WYS D x j) → wpl_X11_ways_25 f nf ((l + 1) * D.1) (nI x) (nI D.1) v14 K z (nI i) g := by
    intro x K v14 hx hK z
    have bx := b12 x (by omega)
    have bx1 : (x + 1) * D.1 ≤ (l + 1) * D.1 := Nat.mul_le_mul_right _ (by omega)
    rw [Nat.succ_mul] at bx1
    induction z with
    | zero => intro i g hk; exact absurd hk (Nat.not_lt_zero _)
    | succ z ih =>
      intro i g hk hi h7 h8
      refine ⟨fun c => ?_, fun c => ?_⟩
      · rw [nI_leI (by omega) (by omega)] at c
        refine hK g (fun y j hy hj => ?_)
        by_cases e : y = x
        · rw [e]; exact h8 j (by omega)
        · exact h7 y j (by omega) hj
      rw [nI_leI (by omega) (by omega)] at c
      have hi' : i < D.1 := by omega
      rw [show (4 : Int32) = nI 4 from rfl, show (3 : Int32) = nI 3 from rfl, show (1 : Int32) = nI 1 from rfl, show (2 : Int32) = nI 2 from rfl]
      simp only [s_mul, nI_add]
      refine ⟨s_in (by omega) (by omega), fun J hJ => ?_⟩
      have go : ∀ j19, j19 = WYS D x i → J j19 := fun j19 e => hJ _ ⟨s_in (by omega) (by omega), by
        rw [nI_clamp (by omega), e]
        refine ih (i + 1) _ (by omega) (by omega) (fun y j hy hj => ?_) (fun j hj => ?_)
        · have := ltm hy hj
          rw [upd_ne (by omega)]
          exact h7 y j hy hj
        · by_cases e2 : j = i
          · rw [e2, upd_at]
          · rw [upd_ne (by omega)]
            exact h8 j (by omega)⟩
      refine ⟨fun c0 => go _ ?_, fun c0 => ?_⟩
      · rw [show (0 : Int32) = nI 0 from rfl, nI_leI (by omega) (by omega)] at c0
        have : x = 0 := by omega
        subst this
        rw [nI_clamp (by omega), h6 i hi']
        rfl
      rw [show (0 : Int32) = nI 0 from rfl, nI_leI (by omega) (by omega)] at c0
      obtain ⟨y, rfl⟩ : ∃ y, x = y + 1 := ⟨x - 1, by omega⟩
      have cell : ∀ s, s < 3 → f (nI (4 * i + s)).toNatClampNeg = nI (D.2.1 (3 * i + s)) := fun s hs => by rw [nI_clamp (by omega), h5 i s hi' hs]
      have c00 : f (nI (4 * i)).toNatClampNeg = nI (D.2.1 (3 * i)) := cell 0 (by omega)
      have b0 := h3 (3 * i) (by omega)
      have b1 := h3 (3 * i + 1) (by omega)
      have b2 := h3 (3 * i + 2) (by omega)
      have by1 : (y + 1) * D.1 ≤ (l + 1) * D.1 := Nat.mul_le_mul_right _ (by omega)
      have q0 := ltm (show y < y + 1 by omega) b0
      have q1 := ltm (show y < y + 1 by omega) b1
      have q2 := ltm (show y < y + 1 by omega) b2
      rw [c00, cell 1 (by omega), cell 2 (by omega), s_sub (by omega) (by omega), show y + 1 - 1 = y by omega, s_mul, nI_add, nI_add, nI_add]
      refine ⟨s_in (by omega) (by omega), s_in (by omega) (by omega), s_in (by omega) (by omega), s_in (by omega) (by omega), s_in (by omega) (by omega), s_in (by omega) (by omega), go _ ?_⟩
      rw [nI_clamp (by omega), nI_clamp (by omega), nI_clamp (by omega), h7 y _ (by omega) b0, h7 y _ (by omega) b1, h7 y _ (by omega) b2, WYS, Int32.zero_add]
  have L16 : ∀ (z x : Nat) (g : Nat → Int32), l + 1 - x < z → x ≤ l + 1 → (∀ y i, y < x → i < D.1 → g (y * D.1 + i) = WYS D y i) → wpl_X11_ways_16 f nf ((l + 1) * D.1) (nI D.1) (nI l) Qa z (nI x) g := by
    intro z
    induction z with
    | zero => intro x g hk; exact absurd hk (Nat.not_lt_zero _)
    | succ z ih =>
      intro x g hk hx h7
      refine ⟨fun c => ?_, fun c => ?_⟩
      · rw [nI_ltI (by omega) (by omega)] at c
        exact h _ g (ltm (show l < l + 1 by omega) h1) (h7 l 0 (by omega) h1)
      rw [nI_ltI (by omega) (by omega)] at c
      have g9 := L25 x (fun f29 => wpl_X11_ways_16 f nf ((l + 1) * D.1) (nI D.1) (nI l) Qa z (nI x + (1 : Int32)) f29) (nI l) (by omega) (fun g' hg => by rw [nI_1]; exact ih (x + 1) g' (by omega) (by omega) (fun y i hy hi => hg y i (by omega) hi)) (D.1 + 1) 0 g (by omega) (Nat.zero_le _) h7 (fun j hj => absurd hj (Nat.not_lt_zero _))
      rw [nI_0] at g9
      exact ⟨_, g9⟩
  have g9 := L16 (l + 2) 0 (fun _ => 0) (by omega) (Nat.zero_le _) (fun y i hy => absurd hy (Nat.not_lt_zero _))
  rw [nI_0] at g9
  exact ⟨_, g9⟩
end SIMW
