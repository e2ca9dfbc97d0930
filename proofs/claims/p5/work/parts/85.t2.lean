set_option maxHeartbeats 2000000 in
theorem f_X3_lessen (k1 : Nat) (hk1 : kd k1 = 5) (k2 : Nat) (hk2 : kd k2 = 5) (μ : TMem)  {Q : TMem → Prop} (h : ∀ μ9 : TMem, Fr 2 μ μ9 → Q μ9) : wp_X3_lessen k1 k2 μ Q := by
  show wp_X1_findByParting k1 μ (fun (μ1 : TMem) => wp_X3_makeGroups k1 k2 μ1 (fun (μ2 : TMem) => Q μ2))
  refine f_X1_findByParting k1 hk1 μ (fun μ1 hf157 => ?_)
  refine f_X3_makeGroups k1 hk1 k2 hk2 μ1 (fun μ2 hf158 => ?_)
  exact h _ (Fr.trans (Fr.trans (Fr.rf) (Fr.up (by decide) hf157)) (Fr.up (by decide) hf158))
set_option maxHeartbeats 2000000 in
theorem f_X9_putTogether (k1 : Nat) (hk1 : kd k1 = 2) (k2 : Nat) (hk2 : kd k2 = 2) (μ : TMem) (a3 : Int32) {Q : Int32 → TMem → Prop} (h : ∀ (r : Int32) (μ9 : TMem), isB r → Fr 2 μ μ9 → Q r μ9) : wp_X9_putTogether k1 k2 μ a3 Q := by
  show wp_X9_meetPairs k1 k2 μ (32 : Int32) (1 : Int32) (fun (r2 : Int32) (μ1 : TMem) => (¬ r2 = 0 → (wp_X5_becomePairs 55 μ1 a3 (fun (μ4 : TMem) => wp_X3_lessen 55 57 μ4 (fun (μ5 : TMem) => Q (1 : Int32) μ5)))) ∧ (r2 = 0 → (Q (0 : Int32) μ1)))
  refine f_X9_meetPairs k1 hk1 k2 hk2 μ (32 : Int32) (1 : Int32) (fun r2 μ1 b159 hf160 => ?_)
  refine ⟨fun c161 => ?_, fun c162 => ?_⟩
  · refine f_X5_becomePairs 55 rfl μ1 a3 (fun μ4 hf163 => ?_)
    refine f_X3_lessen 55 rfl 57 rfl μ4 (fun μ5 hf164 => ?_)
    exact h _ _ (by first | assumption | exact Or.inl rfl | exact Or.inr rfl | exact isB_or (by assumption) (by first | assumption | exact Or.inl rfl | exact Or.inr rfl)) (Fr.trans (Fr.trans (Fr.trans (Fr.rf) (Fr.up (by decide) hf160)) (Fr.up (by decide) hf163)) (Fr.up (by decide) hf164))
  · exact h _ _ (by first | assumption | exact Or.inl rfl | exact Or.inr rfl | exact isB_or (by assumption) (by first | assumption | exact Or.inl rfl | exact Or.inr rfl)) (Fr.trans (Fr.rf) (Fr.up (by decide) hf160))
set_option maxHeartbeats 2000000 in
theorem fl_wpl_X5_stateAfter_8 (k0 : Nat) (hk0 : kd k0 = 5) (μ : TMem) (v5 : Int32) {Q : Int32 → Prop} (h : ∀ r : Int32, Q r) : ∀ (n : Nat) (v2 : Int32) (v3 : Int32) (v4 : Int32), ((v5).toInt - (v2).toInt).toNat < n → 0 ≤ (v2).toInt → wpl_X5_stateAfter_8 k0 μ v5 Q n v2 v3 v4 := by
  intro n
  induction n with
  | zero => intro v2 v3 v4 hm; exact absurd hm (Nat.not_lt_zero _)
  | succ n ih =>
    intro v2 v3 v4 hm hi
    show (v5 ≤ v2 → (Q v4)) ∧ (¬ v5 ≤ v2 → (wp_X7_at k0 μ v4 (v3 - v3 / (3 : Int32) * (3 : Int32)) (fun (r7 : Int32) => wpl_X5_stateAfter_8 k0 μ v5 Q n (v2 + (1 : Int32)) (v3 / (3 : Int32)) r7)))
    refine ⟨fun c_ex => ?_, fun c_in => ?_⟩
    · exact h _
    have c_lt : ¬ (v5) ≤ v2 := c_in
    refine f_X7_at k0 (Or.inr hk0) μ v4 (v3 - v3 / (3 : Int32) * (3 : Int32)) (fun r7 => ?_)
    exact ih (v2 + (1 : Int32)) (v3 / (3 : Int32)) r7 (lt_m c_lt (by omega)) (lt_p (by assumption) c_lt)
set_option maxHeartbeats 2000000 in
theorem f_X5_stateAfter (k0 : Nat) (hk0 : kd k0 = 5) (μ : TMem) (a1 : Int32) (a2 : Int32) {Q : Int32 → Prop} (h : ∀ r : Int32, Q r) : wp_X5_stateAfter k0 μ a1 a2 Q := by
  show ∃ n0x, wpl_X5_stateAfter_8 k0 μ a1 Q n0x (0 : Int32) a2 (0 : Int32)
  refine ⟨_, fl_wpl_X5_stateAfter_8 k0 hk0 μ a1 h _ (0 : Int32) a2 (0 : Int32) (Nat.lt_succ_self _) (by first | decide | omega)⟩
set_option maxHeartbeats 2000000 in
theorem fl_wpl_X2_statesAfter_11 (k0 : Nat) (hk0 : kd k0 = 2) (μ : TMem) (v5 : Int32) {Q : Int32 → Prop} (h : ∀ r : Int32, Q r) : ∀ (n : Nat) (v2 : Int32) (v3 : Int32) (v4 : Int32), ((v5).toInt - (v2).toInt).toNat < n → 0 ≤ (v2).toInt → wpl_X2_statesAfter_11 k0 μ v5 Q n v2 v3 v4 := by
  intro n
  induction n with
  | zero => intro v2 v3 v4 hm; exact absurd hm (Nat.not_lt_zero _)
  | succ n ih =>
    intro v2 v3 v4 hm hi
    show (v5 ≤ v2 → (Q v4)) ∧ (¬ v5 ≤ v2 → (wp_X2_reach k0 μ v4 (v3 - v3 / (3 : Int32) * (3 : Int32)) (fun (r7 : Int32) => wpl_X2_statesAfter_11 k0 μ v5 Q n (v2 + (1 : Int32)) (v3 / (3 : Int32)) r7)))
    refine ⟨fun c_ex => ?_, fun c_in => ?_⟩
    · exact h _
    have c_lt : ¬ (v5) ≤ v2 := c_in
    refine f_X2_reach k0 hk0 μ v4 (v3 - v3 / (3 : Int32) * (3 : Int32)) (fun r7 => ?_)
    exact ih (v2 + (1 : Int32)) (v3 / (3 : Int32)) r7 (lt_m c_lt (by omega)) (lt_p (by assumption) c_lt)
set_option maxHeartbeats 2000000 in
theorem f_X2_statesAfter (k0 : Nat) (hk0 : kd k0 = 2) (μ : TMem) (a1 : Int32) (a2 : Int32) {Q : Int32 → Prop} (h : ∀ r : Int32, Q r) : wp_X2_statesAfter k0 μ a1 a2 Q := by
  show ∃ n0x, wpl_X2_statesAfter_11 k0 μ a1 Q n0x (0 : Int32) a2 (μ k0 3)
  refine ⟨_, fl_wpl_X2_statesAfter_11 k0 hk0 μ a1 h _ (0 : Int32) a2 (μ k0 3) (Nat.lt_succ_self _) (by first | decide | omega)⟩
set_option maxHeartbeats 2000000 in
theorem f_X2_isTaking (k0 : Nat) (hk0 : kd k0 = 2) (μ : TMem) (a1 : Int32) (a2 : Int32) {Q : Int32 → Prop} (h : ∀ r : Int32, isB r → Q r) : wp_X2_isTaking k0 μ a1 a2 Q := by
  show wp_X2_statesAfter k0 μ a1 a2 (fun (r1 : Int32) => ((r1 &&& (μ k0 2)) = 0 → (Q (0 : Int32))) ∧ (¬ (r1 &&& (μ k0 2)) = 0 → (Q (1 : Int32))))
  refine f_X2_statesAfter k0 hk0 μ a1 a2 (fun r1 => ?_)
  refine ⟨fun c165 => ?_, fun c166 => ?_⟩
  · exact h _ (by first | assumption | exact Or.inl rfl | exact Or.inr rfl | exact isB_or (by assumption) (by first | assumption | exact Or.inl rfl | exact Or.inr rfl))
  · exact h _ (by first | assumption | exact Or.inl rfl | exact Or.inr rfl | exact isB_or (by assumption) (by first | assumption | exact Or.inl rfl | exact Or.inr rfl))
set_option maxHeartbeats 2000000 in
theorem fl_wpl_X9_isTakingTheSame_15 (k1 : Nat) (hk1 : kd k1 = 2) (μ : TMem) (v7 : Int32) (v8 : Int32) {K56 : Prop} {Q : Int32 → Prop} (hK56 : K56) (h : ∀ r : Int32, isB r → Q r) : ∀ (n : Nat) (v6 : Int32), ((v7).toInt - (v6).toInt).toNat < n → 0 ≤ (v6).toInt → wpl_X9_isTakingTheSame_15 k1 μ v7 v8 K56 Q n v6 := by
  intro n
  induction n with
  | zero => intro v6 hm; exact absurd hm (Nat.not_lt_zero _)
  | succ n ih =>
    intro v6 hm hi
    show (v7 ≤ v6 → (K56)) ∧ (¬ v7 ≤ v6 → (wp_X5_stateAfter 57 μ v8 v6 (fun (r10 : Int32) => wp_X5_isGoal 57 μ r10 (fun (r13 : Int32) => wp_X2_isTaking k1 μ v8 v6 (fun (r16 : Int32) => (r13 = r16 → (wpl_X9_isTakingTheSame_15 k1 μ v7 v8 K56 Q n (v6 + (1 : Int32)))) ∧ (¬ r13 = r16 → (Q (0 : Int32))))))))
    refine ⟨fun c_ex => ?_, fun c_in => ?_⟩
    · exact hK56
    have c_lt : ¬ (v7) ≤ v6 := c_in
    refine f_X5_stateAfter 57 rfl μ v8 v6 (fun r10 => ?_)
    refine f_X5_isGoal 57 rfl μ r10 (fun r13 b167 => ?_)
    refine f_X2_isTaking k1 hk1 μ v8 v6 (fun r16 b168 => ?_)
    refine ⟨fun c169 => ?_, fun c170 => ?_⟩
    · exact ih (v6 + (1 : Int32)) (lt_m c_lt (by omega)) (lt_p (by assumption) c_lt)
    · exact h _ (by first | assumption | exact Or.inl rfl | exact Or.inr rfl | exact isB_or (by assumption) (by first | assumption | exact Or.inl rfl | exact Or.inr rfl))
set_option maxHeartbeats 2000000 in
theorem fl_wpl_X9_isTakingTheSame_2 (k1 : Nat) (hk1 : kd k1 = 2) (μ : TMem) {Q : Int32 → Prop} (h : ∀ r : Int32, isB r → Q r) : ∀ (n : Nat) (v2 : Int32), (((2 : Int32)).toInt + 1 - (v2).toInt).toNat < n → 0 ≤ (v2).toInt → wpl_X9_isTakingTheSame_2 k1 μ Q n v2 := by
  intro n
  induction n with
  | zero => intro v2 hm; exact absurd hm (Nat.not_lt_zero _)
  | succ n ih =>
    intro v2 hm hi
    show ((2 : Int32) < v2 → (Q (1 : Int32))) ∧ (¬ (2 : Int32) < v2 → (wp_X9_countCodes v2 (fun (r4 : Int32) => ∃ n4x, wpl_X9_isTakingTheSame_15 k1 μ r4 v2 (wpl_X9_isTakingTheSame_2 k1 μ Q n (v2 + (1 : Int32))) Q n4x (0 : Int32))))
    refine ⟨fun c_ex => ?_, fun c_in => ?_⟩
    · exact h _ (by first | assumption | exact Or.inl rfl | exact Or.inr rfl | exact isB_or (by assumption) (by first | assumption | exact Or.inl rfl | exact Or.inr rfl))
    have c_lt : ¬ ((2 : Int32)) < v2 := c_in
    refine f_X9_countCodes v2 (fun r4 => ?_)
    refine ⟨_, fl_wpl_X9_isTakingTheSame_15 k1 hk1 μ r4 v2 ?_ h _ (0 : Int32) (Nat.lt_succ_self _) (by first | decide | omega)⟩
    · exact ih (v2 + (1 : Int32)) (lt_ms c_lt (by decide) (by omega)) (lt_ps (by assumption) c_lt (by decide))
set_option maxHeartbeats 2000000 in
theorem f_X9_isTakingTheSame (k1 : Nat) (hk1 : kd k1 = 2) (μ : TMem)  {Q : Int32 → Prop} (h : ∀ r : Int32, isB r → Q r) : wp_X9_isTakingTheSame k1 μ Q := by
  show ∃ n0x, wpl_X9_isTakingTheSame_2 k1 μ Q n0x (0 : Int32)
  refine ⟨_, fl_wpl_X9_isTakingTheSame_2 k1 hk1 μ h _ (0 : Int32) (Nat.lt_succ_self _) (by first | decide | omega)⟩
set_option maxHeartbeats 2000000 in
theorem f_J6_bitCount_0f7a4 (a0 : Int32) {Q : Int32 → Prop} (h : ∀ r : Int32, Q r) : wp_J6_bitCount_0f7a4 a0 Q := by
  show Q ((((((((a0 - ((a0.toUInt32 >>> ((1 : Int32).toUInt32 &&& Int32.toUInt32 31)).toInt32 &&& (1431655765 : Int32))) &&& (858993459 : Int32)) + (((a0 - ((a0.toUInt32 >>> ((1 : Int32).toUInt32 &&& Int32.toUInt32 31)).toInt32 &&& (1431655765 : Int32))).toUInt32 >>> ((2 : Int32).toUInt32 &&& Int32.toUInt32 31)).toInt32 &&& (858993459 : Int32))) + ((((a0 - ((a0.toUInt32 >>> ((1 : Int32).toUInt32 &&& Int32.toUInt32 31)).toInt32 &&& (1431655765 : Int32))) &&& (858993459 : Int32)) + (((a0 - ((a0.toUInt32 >>> ((1 : Int32).toUInt32 &&& Int32.toUInt32 31)).toInt32 &&& (1431655765 : Int32))).toUInt32 >>> ((2 : Int32).toUInt32 &&& Int32.toUInt32 31)).toInt32 &&& (858993459 : Int32))).toUInt32 >>> ((4 : Int32).toUInt32 &&& Int32.toUInt32 31)).toInt32) &&& (252645135 : Int32)) + ((((((a0 - ((a0.toUInt32 >>> ((1 : Int32).toUInt32 &&& Int32.toUInt32 31)).toInt32 &&& (1431655765 : Int32))) &&& (858993459 : Int32)) + (((a0 - ((a0.toUInt32 >>> ((1 : Int32).toUInt32 &&& Int32.toUInt32 31)).toInt32 &&& (1431655765 : Int32))).toUInt32 >>> ((2 : Int32).toUInt32 &&& Int32.toUInt32 31)).toInt32 &&& (858993459 : Int32))) + ((((a0 - ((a0.toUInt32 >>> ((1 : Int32).toUInt32 &&& Int32.toUInt32 31)).toInt32 &&& (1431655765 : Int32))) &&& (858993459 : Int32)) + (((a0 - ((a0.toUInt32 >>> ((1 : Int32).toUInt32 &&& Int32.toUInt32 31)).toInt32 &&& (1431655765 : Int32))).toUInt32 >>> ((2 : Int32).toUInt32 &&& Int32.toUInt32 31)).toInt32 &&& (858993459 : Int32))).toUInt32 >>> ((4 : Int32).toUInt32 &&& Int32.toUInt32 31)).toInt32) &&& (252645135 : Int32)).toUInt32 >>> ((8 : Int32).toUInt32 &&& Int32.toUInt32 31)).toInt32) + (((((((a0 - ((a0.toUInt32 >>> ((1 : Int32).toUInt32 &&& Int32.toUInt32 31)).toInt32 &&& (1431655765 : Int32))) &&& (858993459 : Int32)) + (((a0 - ((a0.toUInt32 >>> ((1 : Int32).toUInt32 &&& Int32.toUInt32 31)).toInt32 &&& (1431655765 : Int32))).toUInt32 >>> ((2 : Int32).toUInt32 &&& Int32.toUInt32 31)).toInt32 &&& (858993459 : Int32))) + ((((a0 - ((a0.toUInt32 >>> ((1 : Int32).toUInt32 &&& Int32.toUInt32 31)).toInt32 &&& (1431655765 : Int32))) &&& (858993459 : Int32)) + (((a0 - ((a0.toUInt32 >>> ((1 : Int32).toUInt32 &&& Int32.toUInt32 31)).toInt32 &&& (1431655765 : Int32))).toUInt32 >>> ((2 : Int32).toUInt32 &&& Int32.toUInt32 31)).toInt32 &&& (858993459 : Int32))).toUInt32 >>> ((4 : Int32).toUInt32 &&& Int32.toUInt32 31)).toInt32) &&& (252645135 : Int32)) + ((((((a0 - ((a0.toUInt32 >>> ((1 : Int32).toUInt32 &&& Int32.toUInt32 31)).toInt32 &&& (1431655765 : Int32))) &&& (858993459 : Int32)) + (((a0 - ((a0.toUInt32 >>> ((1 : Int32).toUInt32 &&& Int32.toUInt32 31)).toInt32 &&& (1431655765 : Int32))).toUInt32 >>> ((2 : Int32).toUInt32 &&& Int32.toUInt32 31)).toInt32 &&& (858993459 : Int32))) + ((((a0 - ((a0.toUInt32 >>> ((1 : Int32).toUInt32 &&& Int32.toUInt32 31)).toInt32 &&& (1431655765 : Int32))) &&& (858993459 : Int32)) + (((a0 - ((a0.toUInt32 >>> ((1 : Int32).toUInt32 &&& Int32.toUInt32 31)).toInt32 &&& (1431655765 : Int32))).toUInt32 >>> ((2 : Int32).toUInt32 &&& Int32.toUInt32 31)).toInt32 &&& (858993459 : Int32))).toUInt32 >>> ((4 : Int32).toUInt32 &&& Int32.toUInt32 31)).toInt32) &&& (252645135 : Int32)).toUInt32 >>> ((8 : Int32).toUInt32 &&& Int32.toUInt32 31)).toInt32).toUInt32 >>> ((16 : Int32).toUInt32 &&& Int32.toUInt32 31)).toInt32) &&& (63 : Int32))
  exact h _
set_option maxHeartbeats 2000000 in
theorem fl_wpl_X2_countArrows_14 (k0 : Nat) (hk0 : kd k0 = 2) (μ : TMem) (v7 : Int32) {K37 : Int32 → Prop} (hK37 : ∀ (u0 : Int32), K37 u0) : ∀ (n : Nat) (v6 : Int32) (v8 : Int32), (((3 : Int32)).toInt - (v6).toInt).toNat < n → 0 ≤ (v6).toInt → wpl_X2_countArrows_14 k0 μ v7 K37 n v6 v8 := by
  intro n
  induction n with
  | zero => intro v6 v8 hm; exact absurd hm (Nat.not_lt_zero _)
  | succ n ih =>
    intro v6 v8 hm hi
    show ((3 : Int32) ≤ v6 → (K37 v8)) ∧ (¬ (3 : Int32) ≤ v6 → (wp_X7_at k0 μ v7 v6 (fun (r10 : Int32) => wp_J6_bitCount_0f7a4 r10 (fun (r13 : Int32) => wpl_X2_countArrows_14 k0 μ v7 K37 n (v6 + (1 : Int32)) (v8 + r13)))))
    refine ⟨fun c_ex => ?_, fun c_in => ?_⟩
    · exact hK37 v8
    have c_lt : ¬ ((3 : Int32)) ≤ v6 := c_in
    refine f_X7_at k0 (Or.inl hk0) μ v7 v6 (fun r10 => ?_)
    refine f_J6_bitCount_0f7a4 r10 (fun r13 => ?_)
    exact ih (v6 + (1 : Int32)) (v8 + r13) (lt_m c_lt (by omega)) (lt_p (by assumption) c_lt)
set_option maxHeartbeats 2000000 in
theorem fl_wpl_X2_countArrows_4 (k0 : Nat) (hk0 : kd k0 = 2) (μ : TMem) {Q : Int32 → Prop} (h : ∀ r : Int32, Q r) : ∀ (n : Nat) (v2 : Int32) (v3 : Int32), (((μ k0 1)).toInt - (v2).toInt).toNat < n → 0 ≤ (v2).toInt → wpl_X2_countArrows_4 k0 μ Q n v2 v3 := by
  intro n
  induction n with
  | zero => intro v2 v3 hm; exact absurd hm (Nat.not_lt_zero _)
  | succ n ih =>
    intro v2 v3 hm hi
    show ((μ k0 1) ≤ v2 → (Q v3)) ∧ (¬ (μ k0 1) ≤ v2 → (∃ n4x, wpl_X2_countArrows_14 k0 μ v2 (fun (u15 : Int32) => wpl_X2_countArrows_4 k0 μ Q n (v2 + (1 : Int32)) u15) n4x (0 : Int32) v3))
    refine ⟨fun c_ex => ?_, fun c_in => ?_⟩
    · exact h _
    have c_lt : ¬ ((μ k0 1)) ≤ v2 := c_in
    refine ⟨_, fl_wpl_X2_countArrows_14 k0 hk0 μ v2 ?_ _ (0 : Int32) v3 (Nat.lt_succ_self _) (by first | decide | omega)⟩
    · intro u15
      exact ih (v2 + (1 : Int32)) u15 (lt_m c_lt (by omega)) (lt_p (by assumption) c_lt)
set_option maxHeartbeats 2000000 in
theorem f_X2_countArrows (k0 : Nat) (hk0 : kd k0 = 2) (μ : TMem)  {Q : Int32 → Prop} (h : ∀ r : Int32, Q r) : wp_X2_countArrows k0 μ Q := by
  show ∃ n0x, wpl_X2_countArrows_4 k0 μ Q n0x (0 : Int32) (0 : Int32)
  refine ⟨_, fl_wpl_X2_countArrows_4 k0 hk0 μ h _ (0 : Int32) (0 : Int32) (Nat.lt_succ_self _) (by first | decide | omega)⟩
set_option maxHeartbeats 2000000 in
theorem fl_wpl_X2_isPlain_12 (k0 : Nat) (hk0 : kd k0 = 2) (μ : TMem) (v6 : Int32) {K38 : Prop} {Q : Int32 → Prop} (hK38 : K38) (h : ∀ r : Int32, isB r → Q r) : ∀ (n : Nat) (v5 : Int32), (((3 : Int32)).toInt - (v5).toInt).toNat < n → 0 ≤ (v5).toInt → wpl_X2_isPlain_12 k0 μ v6 K38 Q n v5 := by
  intro n
  induction n with
  | zero => intro v5 hm; exact absurd hm (Nat.not_lt_zero _)
  | succ n ih =>
    intro v5 hm hi
    show ((3 : Int32) ≤ v5 → (K38)) ∧ (¬ (3 : Int32) ≤ v5 → (wp_X7_at k0 μ v6 v5 (fun (r8 : Int32) => wp_J6_bitCount_0f7a4 r8 (fun (r11 : Int32) => (r11 = (1 : Int32) → (wpl_X2_isPlain_12 k0 μ v6 K38 Q n (v5 + (1 : Int32)))) ∧ (¬ r11 = (1 : Int32) → (Q (0 : Int32)))))))
    refine ⟨fun c_ex => ?_, fun c_in => ?_⟩
    · exact hK38
    have c_lt : ¬ ((3 : Int32)) ≤ v5 := c_in
    refine f_X7_at k0 (Or.inl hk0) μ v6 v5 (fun r8 => ?_)
    refine f_J6_bitCount_0f7a4 r8 (fun r11 => ?_)
    refine ⟨fun c171 => ?_, fun c172 => ?_⟩
    · exact ih (v5 + (1 : Int32)) (lt_m c_lt (by omega)) (lt_p (by assumption) c_lt)
    · exact h _ (by first | assumption | exact Or.inl rfl | exact Or.inr rfl | exact isB_or (by assumption) (by first | assumption | exact Or.inl rfl | exact Or.inr rfl))
set_option maxHeartbeats 2000000 in
theorem fl_wpl_X2_isPlain_2 (k0 : Nat) (hk0 : kd k0 = 2) (μ : TMem) {K44 : Prop} {Q : Int32 → Prop} (hK44 : K44) (h : ∀ r : Int32, isB r → Q r) : ∀ (n : Nat) (v2 : Int32), (((μ k0 1)).toInt - (v2).toInt).toNat < n → 0 ≤ (v2).toInt → wpl_X2_isPlain_2 k0 μ K44 Q n v2 := by
  intro n
  induction n with
  | zero => intro v2 hm; exact absurd hm (Nat.not_lt_zero _)
  | succ n ih =>
    intro v2 hm hi
    show ((μ k0 1) ≤ v2 → (K44)) ∧ (¬ (μ k0 1) ≤ v2 → (∃ n3x, wpl_X2_isPlain_12 k0 μ v2 (wpl_X2_isPlain_2 k0 μ K44 Q n (v2 + (1 : Int32))) Q n3x (0 : Int32)))
    refine ⟨fun c_ex => ?_, fun c_in => ?_⟩
    · exact hK44
    have c_lt : ¬ ((μ k0 1)) ≤ v2 := c_in
    refine ⟨_, fl_wpl_X2_isPlain_12 k0 hk0 μ v2 ?_ h _ (0 : Int32) (Nat.lt_succ_self _) (by first | decide | omega)⟩
    · exact ih (v2 + (1 : Int32)) (lt_m c_lt (by omega)) (lt_p (by assumption) c_lt)
set_option maxHeartbeats 2000000 in
theorem f_X2_isPlain (k0 : Nat) (hk0 : kd k0 = 2) (μ : TMem)  {Q : Int32 → Prop} (h : ∀ r : Int32, isB r → Q r) : wp_X2_isPlain k0 μ Q := by
  show ∃ n0x, wpl_X2_isPlain_2 k0 μ (wp_J6_bitCount_0f7a4 (μ k0 3) (fun (r15 : Int32) => (¬ r15 = (1 : Int32) → (Q (0 : Int32))) ∧ (r15 = (1 : Int32) → (Q (1 : Int32))))) Q n0x (0 : Int32)
  refine ⟨_, fl_wpl_X2_isPlain_2 k0 hk0 μ ?_ h _ (0 : Int32) (Nat.lt_succ_self _) (by first | decide | omega)⟩
  · refine f_J6_bitCount_0f7a4 (μ k0 3) (fun r15 => ?_)
    refine ⟨fun c173 => ?_, fun c174 => ?_⟩
    · exact h _ (by first | assumption | exact Or.inl rfl | exact Or.inr rfl | exact isB_or (by assumption) (by first | assumption | exact Or.inl rfl | exact Or.inr rfl))
    · exact h _ (by first | assumption | exact Or.inl rfl | exact Or.inr rfl | exact isB_or (by assumption) (by first | assumption | exact Or.inl rfl | exact Or.inr rfl))
set_option maxHeartbeats 2000000 in
theorem fl_wpl_X9_addMachine_83 (k1 : Nat) (hk1 : kd k1 = 2) (μ : TMem) (v15 : Int32) {K111 : Int64 → Prop} (hK111 : ∀ (u0 : Int64), K111 u0) : ∀ (n : Nat) (v14 : Int32) (v16 : Int64), (((3 : Int32)).toInt - (v14).toInt).toNat < n → 0 ≤ (v14).toInt → wpl_X9_addMachine_83 k1 μ v15 K111 n v14 v16 := by
  intro n
  induction n with
  | zero => intro v14 v16 hm; exact absurd hm (Nat.not_lt_zero _)
  | succ n ih =>
    intro v14 v16 hm hi
    show ((3 : Int32) ≤ v14 → (K111 v16)) ∧ (¬ (3 : Int32) ≤ v14 → (wp_X7_at k1 μ v15 v14 (fun (r18 : Int32) => wpl_X9_addMachine_83 k1 μ v15 K111 n (v14 + (1 : Int32)) ((v16 * (31 : Int64)) + r18.toInt64))))
    refine ⟨fun c_ex => ?_, fun c_in => ?_⟩
    · exact hK111 v16
    have c_lt : ¬ ((3 : Int32)) ≤ v14 := c_in
    refine f_X7_at k1 (Or.inl hk1) μ v15 v14 (fun r18 => ?_)
    exact ih (v14 + (1 : Int32)) ((v16 * (31 : Int64)) + r18.toInt64) (lt_m c_lt (by omega)) (lt_p (by assumption) c_lt)
set_option maxHeartbeats 2000000 in
theorem fl_wpl_X9_addMachine_71 (k1 : Nat) (hk1 : kd k1 = 2) (μ : TMem) {Q : Int64 → Prop} (h : ∀ r : Int64, Q r) : ∀ (n : Nat) (v10 : Int32) (v11 : Int64), (((μ k1 1)).toInt - (v10).toInt).toNat < n → 0 ≤ (v10).toInt → wpl_X9_addMachine_71 k1 μ Q n v10 v11 := by
  intro n
  induction n with
  | zero => intro v10 v11 hm; exact absurd hm (Nat.not_lt_zero _)
  | succ n ih =>
    intro v10 v11 hm hi
    show ((μ k1 1) ≤ v10 → (Q v11)) ∧ (¬ (μ k1 1) ≤ v10 → (∃ n12x, wpl_X9_addMachine_83 k1 μ v10 (fun (u22 : Int64) => wpl_X9_addMachine_71 k1 μ Q n (v10 + (1 : Int32)) u22) n12x (0 : Int32) v11))
    refine ⟨fun c_ex => ?_, fun c_in => ?_⟩
    · exact h _
    have c_lt : ¬ ((μ k1 1)) ≤ v10 := c_in
    refine ⟨_, fl_wpl_X9_addMachine_83 k1 hk1 μ v10 ?_ _ (0 : Int32) v11 (Nat.lt_succ_self _) (by first | decide | omega)⟩
    · intro u22
      exact ih (v10 + (1 : Int32)) u22 (lt_m c_lt (by omega)) (lt_p (by assumption) c_lt)
set_option maxHeartbeats 2000000 in
theorem f_X9_addMachine (k1 : Nat) (hk1 : kd k1 = 2) (μ : TMem) (a0 : Int64) {Q : Int64 → Prop} (h : ∀ r : Int64, Q r) : wp_X9_addMachine k1 μ a0 Q := by
  show wp_X2_countArrows k1 μ (fun (r1 : Int32) => wp_X2_isPlain k1 μ (fun (r4 : Int32) => ∀ J7 : Int32 → Prop, (∀ (j8 : Int32), (∃ n8x, wpl_X9_addMachine_71 k1 μ Q n8x (0 : Int32) ((((((((((a0 * (31 : Int64)) + (μ k1 1).toInt64) * (31 : Int64)) + r1.toInt64) * (31 : Int64)) + (μ k1 3).toInt64) * (31 : Int64)) + (μ k1 2).toInt64) * (31 : Int64)) + j8.toInt64)) → J7 j8) → ((r4 = 0 → (J7 (0 : Int32))) ∧ (¬ r4 = 0 → (J7 (1 : Int32))))))
  refine f_X2_countArrows k1 hk1 μ (fun r1 => ?_)
  refine f_X2_isPlain k1 hk1 μ (fun r4 b175 => ?_)
  intro J7 hJ7
  refine ⟨fun c176 => ?_, fun c177 => ?_⟩
  · refine hJ7 (0 : Int32) ?_
    refine ⟨_, fl_wpl_X9_addMachine_71 k1 hk1 μ h _ (0 : Int32) ((((((((((a0 * (31 : Int64)) + (μ k1 1).toInt64) * (31 : Int64)) + r1.toInt64) * (31 : Int64)) + (μ k1 3).toInt64) * (31 : Int64)) + (μ k1 2).toInt64) * (31 : Int64)) + (0 : Int32).toInt64) (Nat.lt_succ_self _) (by first | decide | omega)⟩
  · refine hJ7 (1 : Int32) ?_
    refine ⟨_, fl_wpl_X9_addMachine_71 k1 hk1 μ h _ (0 : Int32) ((((((((((a0 * (31 : Int64)) + (μ k1 1).toInt64) * (31 : Int64)) + r1.toInt64) * (31 : Int64)) + (μ k1 3).toInt64) * (31 : Int64)) + (μ k1 2).toInt64) * (31 : Int64)) + (1 : Int32).toInt64) (Nat.lt_succ_self _) (by first | decide | omega)⟩
set_option maxHeartbeats 2000000 in
theorem f_X0_restart (μ : TMem) (a1 : Int32) {Q : TMem → Prop} (h : ∀ μ9 : TMem, Fr 0 μ μ9 → Q μ9) : wp_X0_restart μ a1 Q := by
  show Q (tms μ 14 0 a1)
  exact h _ (Fr.st (Fr.rf) (by rw [show kd 14 = 0 from rfl] <;> rfl) (Or.inl (ne43 (K := 0) rfl (by decide))))
set_option maxHeartbeats 2000000 in
theorem f_X0_draw (μ : TMem)  {Q : Int32 → TMem → Prop} (h : ∀ (r : Int32) (μ9 : TMem), Fr 0 μ μ9 → Q r μ9) : wp_X0_draw μ Q := by
  show Q (((tms μ 14 0 ((((μ 14 0) * (25173 : Int32)) + (13849 : Int32)) - (((μ 14 0) * (25173 : Int32)) + (13849 : Int32)) / (65536 : Int32) * (65536 : Int32))) 14 0) / (64 : Int32)) (tms μ 14 0 ((((μ 14 0) * (25173 : Int32)) + (13849 : Int32)) - (((μ 14 0) * (25173 : Int32)) + (13849 : Int32)) / (65536 : Int32) * (65536 : Int32)))
  exact h _ _ (Fr.st (Fr.rf) (by rw [show kd 14 = 0 from rfl] <;> rfl) (Or.inl (ne43 (K := 0) rfl (by decide))))
set_option maxHeartbeats 2000000 in
theorem fl_wpl_X1_ofOtherGoalness_4 (k0 : Nat) (hk0 : kd k0 = 5) (μ : TMem) (v4 : Int32) {Q : Int32 → Prop} (h : ∀ r : Int32, Q r) : ∀ (n : Nat) (v2 : Int32) (v3 : Int32), (((μ k0 1)).toInt - (v2).toInt).toNat < n → 0 ≤ (v2).toInt → wpl_X1_ofOtherGoalness_4 k0 μ v4 Q n v2 v3 := by
  intro n
  induction n with
  | zero => intro v2 v3 hm; exact absurd hm (Nat.not_lt_zero _)
  | succ n ih =>
    intro v2 v3 hm hi
    show ((μ k0 1) ≤ v2 → (Q v3)) ∧ (¬ (μ k0 1) ≤ v2 → (wp_X5_isGoal k0 μ v2 (fun (r6 : Int32) => wp_X5_isGoal k0 μ v4 (fun (r9 : Int32) => (r6 = r9 → (wpl_X1_ofOtherGoalness_4 k0 μ v4 Q n (v2 + (1 : Int32)) v3)) ∧ (¬ r6 = r9 → (wpl_X1_ofOtherGoalness_4 k0 μ v4 Q n (v2 + (1 : Int32)) (v3 ||| ((1 : Int32) <<< (v2 &&& 31)))))))))
    refine ⟨fun c_ex => ?_, fun c_in => ?_⟩
    · exact h _
    have c_lt : ¬ ((μ k0 1)) ≤ v2 := c_in
    refine f_X5_isGoal k0 hk0 μ v2 (fun r6 b178 => ?_)
    refine f_X5_isGoal k0 hk0 μ v4 (fun r9 b179 => ?_)
    refine ⟨fun c180 => ?_, fun c181 => ?_⟩
    · exact ih (v2 + (1 : Int32)) v3 (lt_m c_lt (by omega)) (lt_p (by assumption) c_lt)
    · exact ih (v2 + (1 : Int32)) (v3 ||| ((1 : Int32) <<< (v2 &&& 31))) (lt_m c_lt (by omega)) (lt_p (by assumption) c_lt)
set_option maxHeartbeats 2000000 in
theorem f_X1_ofOtherGoalness (k0 : Nat) (hk0 : kd k0 = 5) (μ : TMem) (a1 : Int32) {Q : Int32 → Prop} (h : ∀ r : Int32, Q r) : wp_X1_ofOtherGoalness k0 μ a1 Q := by
  show ∃ n0x, wpl_X1_ofOtherGoalness_4 k0 μ a1 Q n0x (0 : Int32) (0 : Int32)
  refine ⟨_, fl_wpl_X1_ofOtherGoalness_4 k0 hk0 μ a1 h _ (0 : Int32) (0 : Int32) (Nat.lt_succ_self _) (by first | decide | omega)⟩
set_option maxHeartbeats 2000000 in
theorem fl_wpl_X1_isLeadingToUnlike_3 (k1 : Nat) (hk1 : kd k1 = 5) (μ : TMem) (v3 : Int32) (v4 : Int32) {Q : Int32 → Prop} (h : ∀ r : Int32, isB r → Q r) : ∀ (n : Nat) (v2 : Int32), (((3 : Int32)).toInt - (v2).toInt).toNat < n → 0 ≤ (v2).toInt → wpl_X1_isLeadingToUnlike_3 k1 μ v3 v4 Q n v2 := by
  intro n
  induction n with
  | zero => intro v2 hm; exact absurd hm (Nat.not_lt_zero _)
  | succ n ih =>
    intro v2 hm hi
    show ((3 : Int32) ≤ v2 → (Q (0 : Int32))) ∧ (¬ (3 : Int32) ≤ v2 → (wp_X7_at k1 μ v3 v2 (fun (r6 : Int32) => wp_X6_at 27 μ r6 (fun (r9 : Int32) => wp_X7_at k1 μ v4 v2 (fun (r12 : Int32) => wp_X9_isIn r9 r12 (fun (r15 : Int32) => (r15 = 0 → (wpl_X1_isLeadingToUnlike_3 k1 μ v3 v4 Q n (v2 + (1 : Int32)))) ∧ (¬ r15 = 0 → (Q (1 : Int32)))))))))
    refine ⟨fun c_ex => ?_, fun c_in => ?_⟩
    · exact h _ (by first | assumption | exact Or.inl rfl | exact Or.inr rfl | exact isB_or (by assumption) (by first | assumption | exact Or.inl rfl | exact Or.inr rfl))
    have c_lt : ¬ ((3 : Int32)) ≤ v2 := c_in
    refine f_X7_at k1 (Or.inr hk1) μ v3 v2 (fun r6 => ?_)
    refine f_X6_at 27 rfl μ r6 (fun r9 => ?_)
    refine f_X7_at k1 (Or.inr hk1) μ v4 v2 (fun r12 => ?_)
    refine f_X9_isIn r9 r12 (fun r15 b182 => ?_)
    refine ⟨fun c183 => ?_, fun c184 => ?_⟩
    · exact ih (v2 + (1 : Int32)) (lt_m c_lt (by omega)) (lt_p (by assumption) c_lt)
    · exact h _ (by first | assumption | exact Or.inl rfl | exact Or.inr rfl | exact isB_or (by assumption) (by first | assumption | exact Or.inl rfl | exact Or.inr rfl))
set_option maxHeartbeats 2000000 in
theorem f_X1_isLeadingToUnlike (k1 : Nat) (hk1 : kd k1 = 5) (μ : TMem) (a2 : Int32) (a3 : Int32) {Q : Int32 → Prop} (h : ∀ r : Int32, isB r → Q r) : wp_X1_isLeadingToUnlike k1 μ a2 a3 Q := by
  show ∃ n0x, wpl_X1_isLeadingToUnlike_3 k1 μ a2 a3 Q n0x (0 : Int32)
  refine ⟨_, fl_wpl_X1_isLeadingToUnlike_3 k1 hk1 μ a2 a3 h _ (0 : Int32) (Nat.lt_succ_self _) (by first | decide | omega)⟩
set_option maxHeartbeats 2000000 in
theorem fl_wpl_X1_tellFurther_15 (μ0 : TMem) (k1 : Nat) (hk1 : kd k1 = 5) (v9 : Int32) {K99 : Int32 → TMem → Prop} (hK99 : ∀ (u0 : Int32) (u1 : TMem), isB u0 → Fr 0 μ0 u1 → K99 u0 u1) : ∀ (n : Nat) (v8 : Int32) (v10 : Int32) (μ11 : TMem), ((v9).toInt - (v8).toInt).toNat < n → 0 ≤ (v8).toInt → isB v10 → Fr 0 μ0 μ11 → wpl_X1_tellFurther_15 k1 v9 K99 n v8 v10 μ11 := by
  intro n
  induction n with
  | zero => intro v8 v10 μ11 hm; exact absurd hm (Nat.not_lt_zero _)
  | succ n ih =>
    intro v8 v10 μ11 hm hi bv10 hF
    show (v9 ≤ v8 → (K99 v10 μ11)) ∧ (¬ v9 ≤ v8 → (wp_X6_at 27 μ11 v9 (fun (r13 : Int32) => wp_X9_isIn r13 v8 (fun (r16 : Int32) => (¬ r16 = 0 → (wpl_X1_tellFurther_15 k1 v9 K99 n (v8 + (1 : Int32)) v10 μ11)) ∧ (r16 = 0 → (wp_X1_isLeadingToUnlike k1 μ11 v9 v8 (fun (r18 : Int32) => (r18 = 0 → (wpl_X1_tellFurther_15 k1 v9 K99 n (v8 + (1 : Int32)) v10 μ11)) ∧ (¬ r18 = 0 → (wp_X6_at 27 μ11 v9 (fun (r22 : Int32) => wp_X6_put 27 μ11 v9 (r22 ||| ((1 : Int32) <<< (v8 &&& 31))) (fun (μ25 : TMem) => wp_X6_at 27 μ25 v8 (fun (r26 : Int32) => wp_X6_put 27 μ25 v8 (r26 ||| ((1 : Int32) <<< (v9 &&& 31))) (fun (μ29 : TMem) => wpl_X1_tellFurther_15 k1 v9 K99 n (v8 + (1 : Int32)) (1 : Int32) μ29)))))))))))))
    refine ⟨fun c_ex => ?_, fun c_in => ?_⟩
    · exact hK99 v10 μ11 (by first | assumption | exact Or.inl rfl | exact Or.inr rfl | exact isB_or (by assumption) (by first | assumption | exact Or.inl rfl | exact Or.inr rfl)) hF
    have c_lt : ¬ (v9) ≤ v8 := c_in
    refine f_X6_at 27 rfl μ11 v9 (fun r13 => ?_)
    refine f_X9_isIn r13 v8 (fun r16 b185 => ?_)
    refine ⟨fun c186 => ?_, fun c187 => ?_⟩
    · exact ih (v8 + (1 : Int32)) v10 μ11 (lt_m c_lt (by omega)) (lt_p (by assumption) c_lt) (by first | assumption | exact Or.inl rfl | exact Or.inr rfl | exact isB_or (by assumption) (by first | assumption | exact Or.inl rfl | exact Or.inr rfl)) hF
    · refine f_X1_isLeadingToUnlike k1 hk1 μ11 v9 v8 (fun r18 b188 => ?_)
      refine ⟨fun c189 => ?_, fun c190 => ?_⟩
      · exact ih (v8 + (1 : Int32)) v10 μ11 (lt_m c_lt (by omega)) (lt_p (by assumption) c_lt) (by first | assumption | exact Or.inl rfl | exact Or.inr rfl | exact isB_or (by assumption) (by first | assumption | exact Or.inl rfl | exact Or.inr rfl)) hF
      · refine f_X6_at 27 rfl μ11 v9 (fun r22 => ?_)
        refine f_X6_put 27 rfl μ11 v9 (r22 ||| ((1 : Int32) <<< (v8 &&& 31))) (Or.inl (by decide)) (fun μ25 hf191 => ?_)
        refine f_X6_at 27 rfl μ25 v8 (fun r26 => ?_)
        refine f_X6_put 27 rfl μ25 v8 (r26 ||| ((1 : Int32) <<< (v9 &&& 31))) (Or.inl (by decide)) (fun μ29 hf192 => ?_)
        exact ih (v8 + (1 : Int32)) (1 : Int32) μ29 (lt_m c_lt (by omega)) (lt_p (by assumption) c_lt) (by first | assumption | exact Or.inl rfl | exact Or.inr rfl | exact isB_or (by assumption) (by first | assumption | exact Or.inl rfl | exact Or.inr rfl)) (Fr.trans (Fr.trans hF (Fr.up (by decide) hf191)) (Fr.up (by decide) hf192))
set_option maxHeartbeats 2000000 in
theorem fl_wpl_X1_tellFurther_4 (μ0 : TMem) (k1 : Nat) (hk1 : kd k1 = 5) {Q : Int32 → TMem → Prop} (h : ∀ (r : Int32) (μ9 : TMem), isB r → Fr 0 μ0 μ9 → Q r μ9) : ∀ (n : Nat) (v2 : Int32) (v3 : Int32) (μ4 : TMem), (((μ0 k1 1)).toInt - (v2).toInt).toNat < n → 0 ≤ (v2).toInt → isB v3 → Fr 0 μ0 μ4 → wpl_X1_tellFurther_4 k1 Q n v2 v3 μ4 := by
  intro n
  induction n with
  | zero => intro v2 v3 μ4 hm; exact absurd hm (Nat.not_lt_zero _)
  | succ n ih =>
    intro v2 v3 μ4 hm hi bv3 hF
    show ((μ4 k1 1) ≤ v2 → (isB v3 ∧ Q v3 μ4)) ∧ (¬ (μ4 k1 1) ≤ v2 → (∃ n6x, wpl_X1_tellFurther_15 k1 v2 (fun (u31 : Int32) (μ32 : TMem) => wpl_X1_tellFurther_4 k1 Q n (v2 + (1 : Int32)) u31 μ32) n6x (0 : Int32) v3 μ4))
    refine ⟨fun c_ex => ?_, fun c_in => ?_⟩
    · refine ⟨(by first | assumption | exact Or.inl rfl | exact Or.inr rfl | exact isB_or (by assumption) (by first | assumption | exact Or.inl rfl | exact Or.inr rfl)), ?_⟩
      exact h _ _ (by first | assumption | exact Or.inl rfl | exact Or.inr rfl | exact isB_or (by assumption) (by first | assumption | exact Or.inl rfl | exact Or.inr rfl)) hF
    have e_k1_1 : μ4 k1 1 = μ0 k1 1 := hF.1 k1 1 (by rw [show kd k1 = 5 from hk1] <;> rfl)
    have c_lt : ¬ ((μ0 k1 1)) ≤ v2 := by
      rw [e_k1_1] at c_in
      exact c_in
    refine ⟨_, fl_wpl_X1_tellFurther_15 μ4 k1 hk1 v2 ?_ _ (0 : Int32) v3 μ4 (Nat.lt_succ_self _) (by first | decide | omega) (by first | assumption | exact Or.inl rfl | exact Or.inr rfl | exact isB_or (by assumption) (by first | assumption | exact Or.inl rfl | exact Or.inr rfl)) Fr.rf⟩
    · intro u31 μ32 b193 hf194
      exact ih (v2 + (1 : Int32)) u31 μ32 (lt_m c_lt (by omega)) (lt_p (by assumption) c_lt) (by first | assumption | exact Or.inl rfl | exact Or.inr rfl | exact isB_or (by assumption) (by first | assumption | exact Or.inl rfl | exact Or.inr rfl)) (Fr.trans hF (Fr.up (by decide) hf194))
set_option maxHeartbeats 2000000 in
theorem f_X1_tellFurther (k1 : Nat) (hk1 : kd k1 = 5) (μ : TMem)  {Q : Int32 → TMem → Prop} (h : ∀ (r : Int32) (μ9 : TMem), isB r → Fr 0 μ μ9 → Q r μ9) : wp_X1_tellFurther k1 μ Q := by
  show ∃ n0x, wpl_X1_tellFurther_4 k1 Q n0x (0 : Int32) (0 : Int32) μ
  refine ⟨_, fl_wpl_X1_tellFurther_4 μ k1 hk1 (fun r9 μ9 b9 f9 => h r9 μ9 b9 (Fr.trans (Fr.rf) (Fr.up (by decide) f9))) _ (0 : Int32) (0 : Int32) μ (Nat.lt_succ_self _) (by first | decide | omega) (by first | assumption | exact Or.inl rfl | exact Or.inr rfl | exact isB_or (by assumption) (by first | assumption | exact Or.inl rfl | exact Or.inr rfl)) Fr.rf⟩
set_option maxHeartbeats 2000000 in
theorem fl_wpl_X1_firstNotUnlike_2 (μ : TMem) (v3 : Int32) {Q : Int32 → Prop} (h : ∀ r : Int32, Q r) : ∀ (n : Nat) (v2 : Int32), ((v3).toInt - (v2).toInt).toNat < n → 0 ≤ (v2).toInt → wpl_X1_firstNotUnlike_2 μ v3 Q n v2 := by
  intro n
  induction n with
  | zero => intro v2 hm; exact absurd hm (Nat.not_lt_zero _)
  | succ n ih =>
    intro v2 hm hi
    show (v3 ≤ v2 → (Q v3)) ∧ (¬ v3 ≤ v2 → (wp_X6_at 27 μ v3 (fun (r5 : Int32) => wp_X9_isIn r5 v2 (fun (r8 : Int32) => (¬ r8 = 0 → (wpl_X1_firstNotUnlike_2 μ v3 Q n (v2 + (1 : Int32)))) ∧ (r8 = 0 → (Q v2))))))
    refine ⟨fun c_ex => ?_, fun c_in => ?_⟩
    · exact h _
    have c_lt : ¬ (v3) ≤ v2 := c_in
    refine f_X6_at 27 rfl μ v3 (fun r5 => ?_)
    refine f_X9_isIn r5 v2 (fun r8 b195 => ?_)
    refine ⟨fun c196 => ?_, fun c197 => ?_⟩
    · exact ih (v2 + (1 : Int32)) (lt_m c_lt (by omega)) (lt_p (by assumption) c_lt)
    · exact h _
set_option maxHeartbeats 2000000 in
theorem f_X1_firstNotUnlike (μ : TMem) (a1 : Int32) {Q : Int32 → Prop} (h : ∀ r : Int32, Q r) : wp_X1_firstNotUnlike μ a1 Q := by
  show ∃ n0x, wpl_X1_firstNotUnlike_2 μ a1 Q n0x (0 : Int32)
  refine ⟨_, fl_wpl_X1_firstNotUnlike_2 μ a1 h _ (0 : Int32) (Nat.lt_succ_self _) (by first | decide | omega)⟩
set_option maxHeartbeats 2000000 in
theorem fl_wpl_X1_findByPairs_2 (μ0 : TMem) (k1 : Nat) (hk1 : kd k1 = 5) {K29 : TMem → Prop} (hK29 : ∀ (u0 : TMem), Fr 0 μ0 u0 → K29 u0) : ∀ (n : Nat) (v2 : Int32) (μ3 : TMem), (((μ0 k1 1)).toInt - (v2).toInt).toNat < n → 0 ≤ (v2).toInt → Fr 0 μ0 μ3 → wpl_X1_findByPairs_2 k1 K29 n v2 μ3 := by
  intro n
  induction n with
  | zero => intro v2 μ3 hm; exact absurd hm (Nat.not_lt_zero _)
  | succ n ih =>
    intro v2 μ3 hm hi hF
    show ((μ3 k1 1) ≤ v2 → (K29 μ3)) ∧ (¬ (μ3 k1 1) ≤ v2 → (wp_X1_ofOtherGoalness k1 μ3 v2 (fun (r5 : Int32) => wp_X6_put 27 μ3 v2 r5 (fun (μ8 : TMem) => wpl_X1_findByPairs_2 k1 K29 n (v2 + (1 : Int32)) μ8))))
    refine ⟨fun c_ex => ?_, fun c_in => ?_⟩
    · exact hK29 μ3 hF
    have e_k1_1 : μ3 k1 1 = μ0 k1 1 := hF.1 k1 1 (by rw [show kd k1 = 5 from hk1] <;> rfl)
    have c_lt : ¬ ((μ0 k1 1)) ≤ v2 := by
      rw [e_k1_1] at c_in
      exact c_in
    refine f_X1_ofOtherGoalness k1 hk1 μ3 v2 (fun r5 => ?_)
    refine f_X6_put 27 rfl μ3 v2 r5 (Or.inl (by decide)) (fun μ8 hf198 => ?_)
    exact ih (v2 + (1 : Int32)) μ8 (lt_m c_lt (by omega)) (lt_p (by assumption) c_lt) (Fr.trans hF (Fr.up (by decide) hf198))
set_option maxHeartbeats 2000000 in
theorem fl_wpl_X1_findByPairs_33 (μ0 : TMem) (k1 : Nat) (hk1 : kd k1 = 5) {K56 : TMem → Prop} (hK56 : ∀ (u0 : TMem), Fr 0 μ0 u0 → K56 u0) : ∀ (n : Nat) (v12 : Int32) (v13 : Int32) (μ14 : TMem), (((1024 : Int32)).toInt - (v12).toInt).toNat < n → 0 ≤ (v12).toInt → Fr 0 μ0 μ14 → wpl_X1_findByPairs_33 k1 K56 n v12 v13 μ14 := by
  intro n
  induction n with
  | zero => intro v12 v13 μ14 hm; exact absurd hm (Nat.not_lt_zero _)
  | succ n ih =>
    intro v12 v13 μ14 hm hi hF
    show ((1024 : Int32) ≤ v12 → (K56 μ14)) ∧ (¬ (1024 : Int32) ≤ v12 → ((v13 = 0 → (K56 μ14)) ∧ (¬ v13 = 0 → (wp_X1_tellFurther k1 μ14 (fun (r18 : Int32) (μ17 : TMem) => wpl_X1_findByPairs_33 k1 K56 n (v12 + (1 : Int32)) r18 μ17)))))
    refine ⟨fun c_ex => ?_, fun c_in => ?_⟩
    · exact hK56 μ14 hF
    have c_lt : ¬ ((1024 : Int32)) ≤ v12 := c_in
    refine ⟨fun c199 => ?_, fun c200 => ?_⟩
    · exact hK56 μ14 hF
    · refine f_X1_tellFurther k1 hk1 μ14 (fun r18 μ17 b201 hf202 => ?_)
      exact ih (v12 + (1 : Int32)) r18 μ17 (lt_m c_lt (by omega)) (lt_p (by assumption) c_lt) (Fr.trans hF (Fr.up (by decide) hf202))
set_option maxHeartbeats 2000000 in
theorem fl_wpl_X1_findByPairs_58 (μ0 : TMem) (k1 : Nat) (hk1 : kd k1 = 5) {Q : TMem → Prop} (h : ∀ μ9 : TMem, Fr 0 μ0 μ9 → Q μ9) : ∀ (n : Nat) (v22 : Int32) (μ23 : TMem), (((μ0 k1 1)).toInt - (v22).toInt).toNat < n → 0 ≤ (v22).toInt → Fr 0 μ0 μ23 → wpl_X1_findByPairs_58 k1 Q n v22 μ23 := by
  intro n
  induction n with
  | zero => intro v22 μ23 hm; exact absurd hm (Nat.not_lt_zero _)
  | succ n ih =>
    intro v22 μ23 hm hi hF
    show ((μ23 k1 1) ≤ v22 → (Q μ23)) ∧ (¬ (μ23 k1 1) ≤ v22 → (wp_X1_firstNotUnlike μ23 v22 (fun (r25 : Int32) => wp_X6_put 23 μ23 v22 r25 (fun (μ28 : TMem) => wpl_X1_findByPairs_58 k1 Q n (v22 + (1 : Int32)) μ28))))
    refine ⟨fun c_ex => ?_, fun c_in => ?_⟩
    · exact h _ hF
    have e_k1_1 : μ23 k1 1 = μ0 k1 1 := hF.1 k1 1 (by rw [show kd k1 = 5 from hk1] <;> rfl)
    have c_lt : ¬ ((μ0 k1 1)) ≤ v22 := by
      rw [e_k1_1] at c_in
      exact c_in
    refine f_X1_firstNotUnlike μ23 v22 (fun r25 => ?_)
    refine f_X6_put 23 rfl μ23 v22 r25 (Or.inl (by decide)) (fun μ28 hf203 => ?_)
    exact ih (v22 + (1 : Int32)) μ28 (lt_m c_lt (by omega)) (lt_p (by assumption) c_lt) (Fr.trans hF (Fr.up (by decide) hf203))
set_option maxHeartbeats 2000000 in
theorem f_X1_findByPairs (k1 : Nat) (hk1 : kd k1 = 5) (μ : TMem)  {Q : TMem → Prop} (h : ∀ μ9 : TMem, Fr 0 μ μ9 → Q μ9) : wp_X1_findByPairs k1 μ Q := by
  show ∃ n0x, wpl_X1_findByPairs_2 k1 (fun (μ10 : TMem) => ∃ n10x, wpl_X1_findByPairs_33 k1 (fun (μ20 : TMem) => ∃ n20x, wpl_X1_findByPairs_58 k1 Q n20x (0 : Int32) μ20) n10x (0 : Int32) (1 : Int32) μ10) n0x (0 : Int32) μ
  refine ⟨_, fl_wpl_X1_findByPairs_2 μ k1 hk1 ?_ _ (0 : Int32) μ (Nat.lt_succ_self _) (by first | decide | omega) Fr.rf⟩
  · intro μ10 hf204
    refine ⟨_, fl_wpl_X1_findByPairs_33 μ10 k1 hk1 ?_ _ (0 : Int32) (1 : Int32) μ10 (Nat.lt_succ_self _) (by first | decide | omega) Fr.rf⟩
    · intro μ20 hf205
      refine ⟨_, fl_wpl_X1_findByPairs_58 μ20 k1 hk1 (fun μ9 f9 => h μ9 (Fr.trans (Fr.trans (Fr.trans (Fr.rf) (Fr.up (by decide) hf204)) (Fr.up (by decide) hf205)) (Fr.up (by decide) f9))) _ (0 : Int32) μ20 (Nat.lt_succ_self _) (by first | decide | omega) Fr.rf⟩
set_option maxHeartbeats 2000000 in
theorem fl_wpl_X2_addState_2 (μ0 : TMem) (k0 : Nat) (hk0 : kd k0 = 2) {Q : TMem → Prop} (h : ∀ μ9 : TMem, Fr 2 μ0 μ9 → Q μ9) : ∀ (n : Nat) (v2 : Int32) (μ3 : TMem), (((3 : Int32)).toInt - (v2).toInt).toNat < n → 0 ≤ (v2).toInt → Fr 2 μ0 μ3 → wpl_X2_addState_2 k0 Q n v2 μ3 := by
  intro n
  induction n with
  | zero => intro v2 μ3 hm; exact absurd hm (Nat.not_lt_zero _)
  | succ n ih =>
    intro v2 μ3 hm hi hF
    show ((3 : Int32) ≤ v2 → (Q (tms μ3 k0 1 ((μ3 k0 1) + (1 : Int32))))) ∧ (¬ (3 : Int32) ≤ v2 → (wp_X7_put k0 μ3 (μ3 k0 1) v2 (0 : Int32) (fun (μ5 : TMem) => wpl_X2_addState_2 k0 Q n (v2 + (1 : Int32)) μ5)))
    refine ⟨fun c_ex => ?_, fun c_in => ?_⟩
    · exact h _ (Fr.st hF (by rw [show kd k0 = 2 from hk0] <;> rfl) (Or.inl (ne43 (K := 2) hk0 (by decide))))
    have c_lt : ¬ ((3 : Int32)) ≤ v2 := c_in
    refine f_X7_put k0 (Or.inl hk0) μ3 (μ3 k0 1) v2 (0 : Int32) (fun μ5 hf206 => ?_)
    exact ih (v2 + (1 : Int32)) μ5 (lt_m c_lt (by omega)) (lt_p (by assumption) c_lt) (Fr.trans hF (Fr.up (by decide) hf206))
set_option maxHeartbeats 2000000 in
theorem f_X2_addState (k0 : Nat) (hk0 : kd k0 = 2) (μ : TMem)  {Q : TMem → Prop} (h : ∀ μ9 : TMem, Fr 2 μ μ9 → Q μ9) : wp_X2_addState k0 μ Q := by
  show ∃ n0x, wpl_X2_addState_2 k0 Q n0x (0 : Int32) μ
  refine ⟨_, fl_wpl_X2_addState_2 μ k0 hk0 (fun μ9 f9 => h μ9 (Fr.trans (Fr.rf) (Fr.up (by decide) f9))) _ (0 : Int32) μ (Nat.lt_succ_self _) (by first | decide | omega) Fr.rf⟩
set_option maxHeartbeats 2000000 in
theorem fl_wpl_X2_clear_12 (μ0 : TMem) (k0 : Nat) (hk0 : kd k0 = 2) (v3 : Int32) {Q : TMem → Prop} (h : ∀ μ9 : TMem, Fr 2 μ0 μ9 → Q μ9) : ∀ (n : Nat) (v2 : Int32) (μ4 : TMem), ((v3).toInt - (v2).toInt).toNat < n → 0 ≤ (v2).toInt → Fr 2 μ0 μ4 → wpl_X2_clear_12 k0 v3 Q n v2 μ4 := by
  intro n
  induction n with
  | zero => intro v2 μ4 hm; exact absurd hm (Nat.not_lt_zero _)
  | succ n ih =>
    intro v2 μ4 hm hi hF
    show (v3 ≤ v2 → (Q (tms μ4 k0 3 (1 : Int32)))) ∧ (¬ v3 ≤ v2 → (wp_X2_addState k0 μ4 (fun (μ6 : TMem) => wpl_X2_clear_12 k0 v3 Q n (v2 + (1 : Int32)) μ6)))
    refine ⟨fun c_ex => ?_, fun c_in => ?_⟩
    · exact h _ (Fr.st hF (by rw [show kd k0 = 2 from hk0] <;> rfl) (Or.inl (ne43 (K := 2) hk0 (by decide))))
    have c_lt : ¬ (v3) ≤ v2 := c_in
    refine f_X2_addState k0 hk0 μ4 (fun μ6 hf207 => ?_)
    exact ih (v2 + (1 : Int32)) μ6 (lt_m c_lt (by omega)) (lt_p (by assumption) c_lt) (Fr.trans hF (Fr.up (by decide) hf207))
set_option maxHeartbeats 2000000 in
theorem f_X2_clear (k0 : Nat) (hk0 : kd k0 = 2) (μ : TMem) (a1 : Int32) {Q : TMem → Prop} (h : ∀ μ9 : TMem, Fr 2 μ μ9 → Q μ9) : wp_X2_clear k0 μ a1 Q := by
  show ∃ n0x, wpl_X2_clear_12 k0 a1 Q n0x (0 : Int32) (tms (tms μ k0 1 (0 : Int32)) k0 2 (0 : Int32))
  refine ⟨_, fl_wpl_X2_clear_12 (tms (tms μ k0 1 (0 : Int32)) k0 2 (0 : Int32)) k0 hk0 a1 (fun μ9 f9 => h μ9 (Fr.trans (Fr.st (Fr.st (Fr.rf) (by rw [show kd k0 = 2 from hk0] <;> rfl) (Or.inl (ne43 (K := 2) hk0 (by decide)))) (by rw [show kd k0 = 2 from hk0] <;> rfl) (Or.inl (ne43 (K := 2) hk0 (by decide)))) (Fr.up (by decide) f9))) _ (0 : Int32) (tms (tms μ k0 1 (0 : Int32)) k0 2 (0 : Int32)) (Nat.lt_succ_self _) (by first | decide | omega) Fr.rf⟩
set_option maxHeartbeats 2000000 in
theorem f_X2_allStates (k0 : Nat) (hk0 : kd k0 = 2) (μ : TMem)  {Q : Int32 → Prop} (h : ∀ r : Int32, Q r) : wp_X2_allStates k0 μ Q := by
  show Q (((1 : Int32) <<< ((μ k0 1) &&& 31)) - (1 : Int32))
  exact h _
set_option maxHeartbeats 2000000 in
theorem f_X2_sowOne (k0 : Nat) (hk0 : kd k0 = 2) (μ : TMem)  {Q : Int32 → TMem → Prop} (h : ∀ (r : Int32) (μ9 : TMem), Fr 0 μ μ9 → Q r μ9) : wp_X2_sowOne k0 μ Q := by
  show wp_X0_draw μ (fun (r2 : Int32) (μ1 : TMem) => ((μ1 k0 1) ≤ 0 → (Q (0 : Int32) μ1)) ∧ (¬ (μ1 k0 1) ≤ 0 → (¬ (μ1 k0 1) = 0 ∧ (Q ((1 : Int32) <<< ((r2 - r2 / (μ1 k0 1) * (μ1 k0 1)) &&& 31)) μ1))))
  refine f_X0_draw μ (fun r2 μ1 hf208 => ?_)
  refine ⟨fun c209 => ?_, fun c210 => ?_⟩
  · exact h _ _ (Fr.trans (Fr.rf) (Fr.up (by decide) hf208))
  · refine ⟨(by first | exact nz_le (by assumption) | exact nz_ch (by assumption)), ?_⟩
    exact h _ _ (Fr.trans (Fr.rf) (Fr.up (by decide) hf208))
set_option maxHeartbeats 2000000 in
theorem fl_wpl_X2_sowSome_5 (μ0 : TMem) (k0 : Nat) (hk0 : kd k0 = 2) (v4 : Int32) {Q : Int32 → TMem → Prop} (h : ∀ (r : Int32) (μ9 : TMem), Fr 0 μ0 μ9 → Q r μ9) : ∀ (n : Nat) (v2 : Int32) (v3 : Int32) (μ5 : TMem), (((μ0 k0 1)).toInt - (v2).toInt).toNat < n → 0 ≤ (v2).toInt → Fr 0 μ0 μ5 → wpl_X2_sowSome_5 k0 v4 Q n v2 v3 μ5 := by
  intro n
  induction n with
  | zero => intro v2 v3 μ5 hm; exact absurd hm (Nat.not_lt_zero _)
  | succ n ih =>
    intro v2 v3 μ5 hm hi hF
    show ((μ5 k0 1) ≤ v2 → (Q v3 μ5)) ∧ (¬ (μ5 k0 1) ≤ v2 → (wp_X0_draw μ5 (fun (r8 : Int32) (μ7 : TMem) => (v4 < 0 → (wpl_X2_sowSome_5 k0 v4 Q n (v2 + (1 : Int32)) v3 μ7)) ∧ (¬ v4 < 0 → (¬ (v4 + (1 : Int32)) = 0 ∧ ((¬ (r8 - r8 / (v4 + (1 : Int32)) * (v4 + (1 : Int32))) = 0 → (wpl_X2_sowSome_5 k0 v4 Q n (v2 + (1 : Int32)) v3 μ7)) ∧ ((r8 - r8 / (v4 + (1 : Int32)) * (v4 + (1 : Int32))) = 0 → (wpl_X2_sowSome_5 k0 v4 Q n (v2 + (1 : Int32)) (v3 ||| ((1 : Int32) <<< (v2 &&& 31))) μ7))))))))
    refine ⟨fun c_ex => ?_, fun c_in => ?_⟩
    · exact h _ _ hF
    have e_k0_1 : μ5 k0 1 = μ0 k0 1 := hF.1 k0 1 (by rw [show kd k0 = 2 from hk0] <;> rfl)
    have c_lt : ¬ ((μ0 k0 1)) ≤ v2 := by
      rw [e_k0_1] at c_in
      exact c_in
    refine f_X0_draw μ5 (fun r8 μ7 hf211 => ?_)
    refine ⟨fun c212 => ?_, fun c213 => ?_⟩
    · exact ih (v2 + (1 : Int32)) v3 μ7 (lt_m c_lt (by omega)) (lt_p (by assumption) c_lt) (Fr.trans hF (Fr.up (by decide) hf211))
    · refine ⟨(by first | exact nz_le (by assumption) | exact nz_ch (by assumption)), ?_⟩
      refine ⟨fun c214 => ?_, fun c215 => ?_⟩
      · exact ih (v2 + (1 : Int32)) v3 μ7 (lt_m c_lt (by omega)) (lt_p (by assumption) c_lt) (Fr.trans hF (Fr.up (by decide) hf211))
      · exact ih (v2 + (1 : Int32)) (v3 ||| ((1 : Int32) <<< (v2 &&& 31))) μ7 (lt_m c_lt (by omega)) (lt_p (by assumption) c_lt) (Fr.trans hF (Fr.up (by decide) hf211))
set_option maxHeartbeats 2000000 in
theorem f_X2_sowSome (k0 : Nat) (hk0 : kd k0 = 2) (μ : TMem) (a2 : Int32) {Q : Int32 → TMem → Prop} (h : ∀ (r : Int32) (μ9 : TMem), Fr 0 μ μ9 → Q r μ9) : wp_X2_sowSome k0 μ a2 Q := by
  show ∃ n0x, wpl_X2_sowSome_5 k0 a2 Q n0x (0 : Int32) (0 : Int32) μ
  refine ⟨_, fl_wpl_X2_sowSome_5 μ k0 hk0 a2 (fun r9 μ9 f9 => h r9 μ9 (Fr.trans (Fr.rf) (Fr.up (by decide) f9))) _ (0 : Int32) (0 : Int32) μ (Nat.lt_succ_self _) (by first | decide | omega) Fr.rf⟩
set_option maxHeartbeats 2000000 in
theorem fl_wpl_X2_sowArrows_13 (μ0 : TMem) (k0 : Nat) (hk0 : kd k0 = 2) (v8 : Int32) (v9 : Int32) {K50 : TMem → Prop} (hK50 : ∀ (u0 : TMem), Fr 0 μ0 u0 → K50 u0) : ∀ (n : Nat) (v7 : Int32) (μ10 : TMem), (((3 : Int32)).toInt - (v7).toInt).toNat < n → 0 ≤ (v7).toInt → Fr 0 μ0 μ10 → wpl_X2_sowArrows_13 k0 v8 v9 K50 n v7 μ10 := by
  intro n
  induction n with
  | zero => intro v7 μ10 hm; exact absurd hm (Nat.not_lt_zero _)
  | succ n ih =>
    intro v7 μ10 hm hi hF
    show ((3 : Int32) ≤ v7 → (K50 μ10)) ∧ (¬ (3 : Int32) ≤ v7 → (∀ J12 : Int32 → TMem → Prop, (∀ (j13 : Int32) (μ14 : TMem), (wp_X7_put k0 μ14 v8 v7 j13 (fun (μ15 : TMem) => wpl_X2_sowArrows_13 k0 v8 v9 K50 n (v7 + (1 : Int32)) μ15)) → J12 j13 μ14) → ((¬ v9 = 0 → (wp_X2_sowSome k0 μ10 v9 (fun (r18 : Int32) (μ17 : TMem) => J12 r18 μ17))) ∧ (v9 = 0 → (wp_X2_sowOne k0 μ10 (fun (r20 : Int32) (μ19 : TMem) => J12 r20 μ19))))))
    refine ⟨fun c_ex => ?_, fun c_in => ?_⟩
    · exact hK50 μ10 hF
    have c_lt : ¬ ((3 : Int32)) ≤ v7 := c_in
    intro J12 hJ12
    refine ⟨fun c216 => ?_, fun c217 => ?_⟩
    · refine f_X2_sowSome k0 hk0 μ10 v9 (fun r18 μ17 hf218 => ?_)
      refine hJ12 r18 μ17 ?_
      refine f_X7_put k0 (Or.inl hk0) μ17 v8 v7 r18 (fun μ15 hf219 => ?_)
      exact ih (v7 + (1 : Int32)) μ15 (lt_m c_lt (by omega)) (lt_p (by assumption) c_lt) (Fr.trans (Fr.trans hF (Fr.up (by decide) hf218)) (Fr.up (by decide) hf219))
    · refine f_X2_sowOne k0 hk0 μ10 (fun r20 μ19 hf220 => ?_)
      refine hJ12 r20 μ19 ?_
      refine f_X7_put k0 (Or.inl hk0) μ19 v8 v7 r20 (fun μ15 hf221 => ?_)
      exact ih (v7 + (1 : Int32)) μ15 (lt_m c_lt (by omega)) (lt_p (by assumption) c_lt) (Fr.trans (Fr.trans hF (Fr.up (by decide) hf220)) (Fr.up (by decide) hf221))
set_option maxHeartbeats 2000000 in
theorem fl_wpl_X2_sowArrows_2 (μ0 : TMem) (k0 : Nat) (hk0 : kd k0 = 2) (v3 : Int32) {Q : TMem → Prop} (h : ∀ μ9 : TMem, Fr 0 μ0 μ9 → Q μ9) : ∀ (n : Nat) (v2 : Int32) (μ4 : TMem), (((μ0 k0 1)).toInt - (v2).toInt).toNat < n → 0 ≤ (v2).toInt → Fr 0 μ0 μ4 → wpl_X2_sowArrows_2 k0 v3 Q n v2 μ4 := by
  intro n
  induction n with
  | zero => intro v2 μ4 hm; exact absurd hm (Nat.not_lt_zero _)
  | succ n ih =>
    intro v2 μ4 hm hi hF
    show ((μ4 k0 1) ≤ v2 → (Q μ4)) ∧ (¬ (μ4 k0 1) ≤ v2 → (∃ n5x, wpl_X2_sowArrows_13 k0 v2 v3 (fun (μ22 : TMem) => wpl_X2_sowArrows_2 k0 v3 Q n (v2 + (1 : Int32)) μ22) n5x (0 : Int32) μ4))
    refine ⟨fun c_ex => ?_, fun c_in => ?_⟩
    · exact h _ hF
    have e_k0_1 : μ4 k0 1 = μ0 k0 1 := hF.1 k0 1 (by rw [show kd k0 = 2 from hk0] <;> rfl)
    have c_lt : ¬ ((μ0 k0 1)) ≤ v2 := by
      rw [e_k0_1] at c_in
      exact c_in
    refine ⟨_, fl_wpl_X2_sowArrows_13 μ4 k0 hk0 v2 v3 ?_ _ (0 : Int32) μ4 (Nat.lt_succ_self _) (by first | decide | omega) Fr.rf⟩
    · intro μ22 hf222
      exact ih (v2 + (1 : Int32)) μ22 (lt_m c_lt (by omega)) (lt_p (by assumption) c_lt) (Fr.trans hF (Fr.up (by decide) hf222))
set_option maxHeartbeats 2000000 in
theorem f_X2_sowArrows (k0 : Nat) (hk0 : kd k0 = 2) (μ : TMem) (a2 : Int32) {Q : TMem → Prop} (h : ∀ μ9 : TMem, Fr 0 μ μ9 → Q μ9) : wp_X2_sowArrows k0 μ a2 Q := by
  show ∃ n0x, wpl_X2_sowArrows_2 k0 a2 Q n0x (0 : Int32) μ
  refine ⟨_, fl_wpl_X2_sowArrows_2 μ k0 hk0 a2 (fun μ9 f9 => h μ9 (Fr.trans (Fr.rf) (Fr.up (by decide) f9))) _ (0 : Int32) μ (Nat.lt_succ_self _) (by first | decide | omega) Fr.rf⟩
set_option maxHeartbeats 2000000 in
theorem fl_wpl_X2_sowGoals_2 (μ0 : TMem) (k0 : Nat) (hk0 : kd k0 = 2) {Q : TMem → Prop} (h : ∀ μ9 : TMem, Fr 1 μ0 μ9 → Q μ9) : ∀ (n : Nat) (v2 : Int32) (μ3 : TMem), (((μ0 k0 1)).toInt - (v2).toInt).toNat < n → 0 ≤ (v2).toInt → Fr 1 μ0 μ3 → wpl_X2_sowGoals_2 k0 Q n v2 μ3 := by
  intro n
  induction n with
  | zero => intro v2 μ3 hm; exact absurd hm (Nat.not_lt_zero _)
  | succ n ih =>
    intro v2 μ3 hm hi hF
    show ((μ3 k0 1) ≤ v2 → (Q μ3)) ∧ (¬ (μ3 k0 1) ≤ v2 → (wp_X0_draw μ3 (fun (r6 : Int32) (μ5 : TMem) => (¬ (r6 - r6 / (2 : Int32) * (2 : Int32)) = 0 → (wpl_X2_sowGoals_2 k0 Q n (v2 + (1 : Int32)) μ5)) ∧ ((r6 - r6 / (2 : Int32) * (2 : Int32)) = 0 → (wpl_X2_sowGoals_2 k0 Q n (v2 + (1 : Int32)) (tms μ5 k0 2 ((μ5 k0 2) ||| ((1 : Int32) <<< (v2 &&& 31)))))))))
    refine ⟨fun c_ex => ?_, fun c_in => ?_⟩
    · exact h _ hF
    have e_k0_1 : μ3 k0 1 = μ0 k0 1 := hF.1 k0 1 (by rw [show kd k0 = 2 from hk0] <;> rfl)
    have c_lt : ¬ ((μ0 k0 1)) ≤ v2 := by
      rw [e_k0_1] at c_in
      exact c_in
    refine f_X0_draw μ3 (fun r6 μ5 hf223 => ?_)
    refine ⟨fun c224 => ?_, fun c225 => ?_⟩
    · exact ih (v2 + (1 : Int32)) μ5 (lt_m c_lt (by omega)) (lt_p (by assumption) c_lt) (Fr.trans hF (Fr.up (by decide) hf223))
    · exact ih (v2 + (1 : Int32)) (tms μ5 k0 2 ((μ5 k0 2) ||| ((1 : Int32) <<< (v2 &&& 31)))) (lt_m c_lt (by omega)) (lt_p (by assumption) c_lt) (Fr.st (Fr.trans hF (Fr.up (by decide) hf223)) (by rw [show kd k0 = 2 from hk0] <;> rfl) (Or.inl (ne43 (K := 2) hk0 (by decide))))
set_option maxHeartbeats 2000000 in
theorem f_X2_sowGoals (k0 : Nat) (hk0 : kd k0 = 2) (μ : TMem)  {Q : TMem → Prop} (h : ∀ μ9 : TMem, Fr 1 μ μ9 → Q μ9) : wp_X2_sowGoals k0 μ Q := by
  show ∃ n0x, wpl_X2_sowGoals_2 k0 Q n0x (0 : Int32) μ
  refine ⟨_, fl_wpl_X2_sowGoals_2 μ k0 hk0 (fun μ9 f9 => h μ9 (Fr.trans (Fr.rf) (Fr.up (by decide) f9))) _ (0 : Int32) μ (Nat.lt_succ_self _) (by first | decide | omega) Fr.rf⟩
set_option maxHeartbeats 2000000 in
theorem fl_wpl_X7_isSameTable_36 (k0 : Nat) (hk0 : kd k0 = 2 ∨ kd k0 = 5) (k1 : Nat) (hk1 : kd k1 = 2 ∨ kd k1 = 5) (μ : TMem) (v8 : Int32) {K64 : Prop} {Q : Int32 → Prop} (hK64 : K64) (h : ∀ r : Int32, isB r → Q r) : ∀ (n : Nat) (v7 : Int32), (((3 : Int32)).toInt - (v7).toInt).toNat < n → 0 ≤ (v7).toInt → wpl_X7_isSameTable_36 k0 k1 μ v8 K64 Q n v7 := by
  intro n
  induction n with
  | zero => intro v7 hm; exact absurd hm (Nat.not_lt_zero _)
  | succ n ih =>
    intro v7 hm hi
    show ((3 : Int32) ≤ v7 → (K64)) ∧ (¬ (3 : Int32) ≤ v7 → (wp_X7_at k0 μ v8 v7 (fun (r10 : Int32) => wp_X7_at k1 μ v8 v7 (fun (r13 : Int32) => (r10 = r13 → (wpl_X7_isSameTable_36 k0 k1 μ v8 K64 Q n (v7 + (1 : Int32)))) ∧ (¬ r10 = r13 → (Q (0 : Int32)))))))
    refine ⟨fun c_ex => ?_, fun c_in => ?_⟩
    · exact hK64
    have c_lt : ¬ ((3 : Int32)) ≤ v7 := c_in
    refine f_X7_at k0 hk0 μ v8 v7 (fun r10 => ?_)
    refine f_X7_at k1 hk1 μ v8 v7 (fun r13 => ?_)
    refine ⟨fun c226 => ?_, fun c227 => ?_⟩
    · exact ih (v7 + (1 : Int32)) (lt_m c_lt (by omega)) (lt_p (by assumption) c_lt)
    · exact h _ (by first | assumption | exact Or.inl rfl | exact Or.inr rfl | exact isB_or (by assumption) (by first | assumption | exact Or.inl rfl | exact Or.inr rfl))
set_option maxHeartbeats 2000000 in
theorem fl_wpl_X7_isSameTable_26 (k0 : Nat) (hk0 : kd k0 = 2 ∨ kd k0 = 5) (k1 : Nat) (hk1 : kd k1 = 2 ∨ kd k1 = 5) (μ : TMem) {Q : Int32 → Prop} (h : ∀ r : Int32, isB r → Q r) : ∀ (n : Nat) (v4 : Int32), (((μ k0 1)).toInt - (v4).toInt).toNat < n → 0 ≤ (v4).toInt → wpl_X7_isSameTable_26 k0 k1 μ Q n v4 := by
  intro n
  induction n with
  | zero => intro v4 hm; exact absurd hm (Nat.not_lt_zero _)
  | succ n ih =>
    intro v4 hm hi
    show ((μ k0 1) ≤ v4 → (Q (1 : Int32))) ∧ (¬ (μ k0 1) ≤ v4 → (∃ n5x, wpl_X7_isSameTable_36 k0 k1 μ v4 (wpl_X7_isSameTable_26 k0 k1 μ Q n (v4 + (1 : Int32))) Q n5x (0 : Int32)))
    refine ⟨fun c_ex => ?_, fun c_in => ?_⟩
    · exact h _ (by first | assumption | exact Or.inl rfl | exact Or.inr rfl | exact isB_or (by assumption) (by first | assumption | exact Or.inl rfl | exact Or.inr rfl))
    have c_lt : ¬ ((μ k0 1)) ≤ v4 := c_in
    refine ⟨_, fl_wpl_X7_isSameTable_36 k0 hk0 k1 hk1 μ v4 ?_ h _ (0 : Int32) (Nat.lt_succ_self _) (by first | decide | omega)⟩
    · exact ih (v4 + (1 : Int32)) (lt_m c_lt (by omega)) (lt_p (by assumption) c_lt)
set_option maxHeartbeats 2000000 in
theorem f_X7_isSameTable (k0 : Nat) (hk0 : kd k0 = 2 ∨ kd k0 = 5) (k1 : Nat) (hk1 : kd k1 = 2 ∨ kd k1 = 5) (μ : TMem)  {Q : Int32 → Prop} (h : ∀ r : Int32, isB r → Q r) : wp_X7_isSameTable k0 k1 μ Q := by
  show (¬ (μ k0 1) = (μ k1 1) → (Q (0 : Int32))) ∧ ((μ k0 1) = (μ k1 1) → (((μ k0 2) = (μ k1 2) → (∃ n2x, wpl_X7_isSameTable_26 k0 k1 μ Q n2x (0 : Int32))) ∧ (¬ (μ k0 2) = (μ k1 2) → (Q (0 : Int32)))))
  refine ⟨fun c228 => ?_, fun c229 => ?_⟩
  · exact h _ (by first | assumption | exact Or.inl rfl | exact Or.inr rfl | exact isB_or (by assumption) (by first | assumption | exact Or.inl rfl | exact Or.inr rfl))
  · refine ⟨fun c230 => ?_, fun c231 => ?_⟩
    · refine ⟨_, fl_wpl_X7_isSameTable_26 k0 hk0 k1 hk1 μ h _ (0 : Int32) (Nat.lt_succ_self _) (by first | decide | omega)⟩
    · exact h _ (by first | assumption | exact Or.inl rfl | exact Or.inr rfl | exact isB_or (by assumption) (by first | assumption | exact Or.inl rfl | exact Or.inr rfl))
set_option maxHeartbeats 2000000 in
theorem f_X2_isSameAs (k0 : Nat) (hk0 : kd k0 = 2) (k1 : Nat) (hk1 : kd k1 = 2) (μ : TMem)  {Q : Int32 → Prop} (h : ∀ r : Int32, isB r → Q r) : wp_X2_isSameAs k0 k1 μ Q := by
  show (¬ (μ k0 3) = (μ k1 3) → (Q (0 : Int32))) ∧ ((μ k0 3) = (μ k1 3) → (wp_X7_isSameTable k0 k1 μ (fun (r2 : Int32) => (r2 = 0 → (Q (0 : Int32))) ∧ (¬ r2 = 0 → (Q (1 : Int32))))))
  refine ⟨fun c232 => ?_, fun c233 => ?_⟩
  · exact h _ (by first | assumption | exact Or.inl rfl | exact Or.inr rfl | exact isB_or (by assumption) (by first | assumption | exact Or.inl rfl | exact Or.inr rfl))
  · refine f_X7_isSameTable k0 (Or.inl hk0) k1 (Or.inl hk1) μ (fun r2 b234 => ?_)
    refine ⟨fun c235 => ?_, fun c236 => ?_⟩
    · exact h _ (by first | assumption | exact Or.inl rfl | exact Or.inr rfl | exact isB_or (by assumption) (by first | assumption | exact Or.inl rfl | exact Or.inr rfl))
    · exact h _ (by first | assumption | exact Or.inl rfl | exact Or.inr rfl | exact isB_or (by assumption) (by first | assumption | exact Or.inl rfl | exact Or.inr rfl))
set_option maxHeartbeats 2000000 in
theorem fl_wpl_X2_become_36 (μ0 : TMem) (k0 : Nat) (hk0 : kd k0 = 2) (k1 : Nat) (hk1 : kd k1 = 2) (v7 : Int32) {K59 : TMem → Prop} (hK59 : ∀ (u0 : TMem), Fr 0 μ0 u0 → K59 u0) : ∀ (n : Nat) (v6 : Int32) (μ8 : TMem), (((3 : Int32)).toInt - (v6).toInt).toNat < n → 0 ≤ (v6).toInt → Fr 0 μ0 μ8 → wpl_X2_become_36 k0 k1 v7 K59 n v6 μ8 := by
  intro n
  induction n with
  | zero => intro v6 μ8 hm; exact absurd hm (Nat.not_lt_zero _)
  | succ n ih =>
    intro v6 μ8 hm hi hF
    show ((3 : Int32) ≤ v6 → (K59 μ8)) ∧ (¬ (3 : Int32) ≤ v6 → (wp_X7_at k1 μ8 v7 v6 (fun (r10 : Int32) => wp_X7_put k0 μ8 v7 v6 r10 (fun (μ13 : TMem) => wpl_X2_become_36 k0 k1 v7 K59 n (v6 + (1 : Int32)) μ13))))
    refine ⟨fun c_ex => ?_, fun c_in => ?_⟩
    · exact hK59 μ8 hF
    have c_lt : ¬ ((3 : Int32)) ≤ v6 := c_in
    refine f_X7_at k1 (Or.inl hk1) μ8 v7 v6 (fun r10 => ?_)
    refine f_X7_put k0 (Or.inl hk0) μ8 v7 v6 r10 (fun μ13 hf237 => ?_)
    exact ih (v6 + (1 : Int32)) μ13 (lt_m c_lt (by omega)) (lt_p (by assumption) c_lt) (Fr.trans hF (Fr.up (by decide) hf237))
set_option maxHeartbeats 2000000 in
theorem fl_wpl_X2_become_26 (μ0 : TMem) (k0 : Nat) (hk0 : kd k0 = 2) (k1 : Nat) (hk1 : kd k1 = 2) {Q : TMem → Prop} (h : ∀ μ9 : TMem, Fr 0 μ0 μ9 → Q μ9) : ∀ (n : Nat) (v2 : Int32) (μ3 : TMem), (((μ0 k0 1)).toInt - (v2).toInt).toNat < n → 0 ≤ (v2).toInt → Fr 0 μ0 μ3 → wpl_X2_become_26 k0 k1 Q n v2 μ3 := by
  intro n
  induction n with
  | zero => intro v2 μ3 hm; exact absurd hm (Nat.not_lt_zero _)
  | succ n ih =>
    intro v2 μ3 hm hi hF
    show ((μ3 k0 1) ≤ v2 → (Q μ3)) ∧ (¬ (μ3 k0 1) ≤ v2 → (∃ n4x, wpl_X2_become_36 k0 k1 v2 (fun (μ15 : TMem) => wpl_X2_become_26 k0 k1 Q n (v2 + (1 : Int32)) μ15) n4x (0 : Int32) μ3))
    refine ⟨fun c_ex => ?_, fun c_in => ?_⟩
    · exact h _ hF
    have e_k0_1 : μ3 k0 1 = μ0 k0 1 := hF.1 k0 1 (by rw [show kd k0 = 2 from hk0] <;> rfl)
    have c_lt : ¬ ((μ0 k0 1)) ≤ v2 := by
      rw [e_k0_1] at c_in
      exact c_in
    refine ⟨_, fl_wpl_X2_become_36 μ3 k0 hk0 k1 hk1 v2 ?_ _ (0 : Int32) μ3 (Nat.lt_succ_self _) (by first | decide | omega) Fr.rf⟩
    · intro μ15 hf238
      exact ih (v2 + (1 : Int32)) μ15 (lt_m c_lt (by omega)) (lt_p (by assumption) c_lt) (Fr.trans hF (Fr.up (by decide) hf238))
set_option maxHeartbeats 2000000 in
theorem f_X2_become (k0 : Nat) (hk0 : kd k0 = 2) (k1 : Nat) (hk1 : kd k1 = 2) (μ : TMem)  {Q : TMem → Prop} (h : ∀ μ9 : TMem, Fr 2 μ μ9 → Q μ9) : wp_X2_become k0 k1 μ Q := by
  show ∃ n0x, wpl_X2_become_26 k0 k1 Q n0x (0 : Int32) (tms (tms (tms μ k0 1 (μ k1 1)) k0 3 ((tms μ k0 1 (μ k1 1)) k1 3)) k0 2 ((tms (tms μ k0 1 (μ k1 1)) k0 3 ((tms μ k0 1 (μ k1 1)) k1 3)) k1 2))
  refine ⟨_, fl_wpl_X2_become_26 (tms (tms (tms μ k0 1 (μ k1 1)) k0 3 ((tms μ k0 1 (μ k1 1)) k1 3)) k0 2 ((tms (tms μ k0 1 (μ k1 1)) k0 3 ((tms μ k0 1 (μ k1 1)) k1 3)) k1 2)) k0 hk0 k1 hk1 (fun μ9 f9 => h μ9 (Fr.trans (Fr.st (Fr.st (Fr.st (Fr.rf) (by rw [show kd k0 = 2 from hk0] <;> rfl) (Or.inl (ne43 (K := 2) hk0 (by decide)))) (by rw [show kd k0 = 2 from hk0] <;> rfl) (Or.inl (ne43 (K := 2) hk0 (by decide)))) (by rw [show kd k0 = 2 from hk0] <;> rfl) (Or.inl (ne43 (K := 2) hk0 (by decide)))) (Fr.up (by decide) f9))) _ (0 : Int32) (tms (tms (tms μ k0 1 (μ k1 1)) k0 3 ((tms μ k0 1 (μ k1 1)) k1 3)) k0 2 ((tms (tms μ k0 1 (μ k1 1)) k0 3 ((tms μ k0 1 (μ k1 1)) k1 3)) k1 2)) (Nat.lt_succ_self _) (by first | decide | omega) Fr.rf⟩
set_option maxHeartbeats 2000000 in
theorem fl_wpl_X2_sources_5 (k0 : Nat) (hk0 : kd k0 = 2) (μ : TMem) (v4 : Int32) (v5 : Int32) {Q : Int32 → Prop} (h : ∀ r : Int32, Q r) : ∀ (n : Nat) (v2 : Int32) (v3 : Int32), (((μ k0 1)).toInt - (v2).toInt).toNat < n → 0 ≤ (v2).toInt → wpl_X2_sources_5 k0 μ v4 v5 Q n v2 v3 := by
  intro n
  induction n with
  | zero => intro v2 v3 hm; exact absurd hm (Nat.not_lt_zero _)
  | succ n ih =>
    intro v2 v3 hm hi
    show ((μ k0 1) ≤ v2 → (Q v3)) ∧ (¬ (μ k0 1) ≤ v2 → (wp_X7_at k0 μ v2 v5 (fun (r7 : Int32) => wp_X9_isIn r7 v4 (fun (r10 : Int32) => (r10 = 0 → (wpl_X2_sources_5 k0 μ v4 v5 Q n (v2 + (1 : Int32)) v3)) ∧ (¬ r10 = 0 → (wpl_X2_sources_5 k0 μ v4 v5 Q n (v2 + (1 : Int32)) (v3 ||| ((1 : Int32) <<< (v2 &&& 31)))))))))
    refine ⟨fun c_ex => ?_, fun c_in => ?_⟩
    · exact h _
    have c_lt : ¬ ((μ k0 1)) ≤ v2 := c_in
    refine f_X7_at k0 (Or.inl hk0) μ v2 v5 (fun r7 => ?_)
    refine f_X9_isIn r7 v4 (fun r10 b239 => ?_)
    refine ⟨fun c240 => ?_, fun c241 => ?_⟩
    · exact ih (v2 + (1 : Int32)) v3 (lt_m c_lt (by omega)) (lt_p (by assumption) c_lt)
    · exact ih (v2 + (1 : Int32)) (v3 ||| ((1 : Int32) <<< (v2 &&& 31))) (lt_m c_lt (by omega)) (lt_p (by assumption) c_lt)
set_option maxHeartbeats 2000000 in
theorem f_X2_sources (k0 : Nat) (hk0 : kd k0 = 2) (μ : TMem) (a1 : Int32) (a2 : Int32) {Q : Int32 → Prop} (h : ∀ r : Int32, Q r) : wp_X2_sources k0 μ a1 a2 Q := by
  show ∃ n0x, wpl_X2_sources_5 k0 μ a1 a2 Q n0x (0 : Int32) (0 : Int32)
  refine ⟨_, fl_wpl_X2_sources_5 k0 hk0 μ a1 a2 h _ (0 : Int32) (0 : Int32) (Nat.lt_succ_self _) (by first | decide | omega)⟩
set_option maxHeartbeats 2000000 in
theorem fl_wpl_X2_becomeRound_36 (μ0 : TMem) (k0 : Nat) (hk0 : kd k0 = 2) (k1 : Nat) (hk1 : kd k1 = 2) (v7 : Int32) {K59 : TMem → Prop} (hK59 : ∀ (u0 : TMem), Fr 0 μ0 u0 → K59 u0) : ∀ (n : Nat) (v6 : Int32) (μ8 : TMem), (((3 : Int32)).toInt - (v6).toInt).toNat < n → 0 ≤ (v6).toInt → Fr 0 μ0 μ8 → wpl_X2_becomeRound_36 k0 k1 v7 K59 n v6 μ8 := by
  intro n
  induction n with
  | zero => intro v6 μ8 hm; exact absurd hm (Nat.not_lt_zero _)
  | succ n ih =>
    intro v6 μ8 hm hi hF
    show ((3 : Int32) ≤ v6 → (K59 μ8)) ∧ (¬ (3 : Int32) ≤ v6 → (wp_X2_sources k1 μ8 v7 v6 (fun (r10 : Int32) => wp_X7_put k0 μ8 v7 v6 r10 (fun (μ13 : TMem) => wpl_X2_becomeRound_36 k0 k1 v7 K59 n (v6 + (1 : Int32)) μ13))))
    refine ⟨fun c_ex => ?_, fun c_in => ?_⟩
    · exact hK59 μ8 hF
    have c_lt : ¬ ((3 : Int32)) ≤ v6 := c_in
    refine f_X2_sources k1 hk1 μ8 v7 v6 (fun r10 => ?_)
    refine f_X7_put k0 (Or.inl hk0) μ8 v7 v6 r10 (fun μ13 hf242 => ?_)
    exact ih (v6 + (1 : Int32)) μ13 (lt_m c_lt (by omega)) (lt_p (by assumption) c_lt) (Fr.trans hF (Fr.up (by decide) hf242))
set_option maxHeartbeats 2000000 in
theorem fl_wpl_X2_becomeRound_26 (μ0 : TMem) (k0 : Nat) (hk0 : kd k0 = 2) (k1 : Nat) (hk1 : kd k1 = 2) {Q : TMem → Prop} (h : ∀ μ9 : TMem, Fr 0 μ0 μ9 → Q μ9) : ∀ (n : Nat) (v2 : Int32) (μ3 : TMem), (((μ0 k0 1)).toInt - (v2).toInt).toNat < n → 0 ≤ (v2).toInt → Fr 0 μ0 μ3 → wpl_X2_becomeRound_26 k0 k1 Q n v2 μ3 := by
  intro n
  induction n with
  | zero => intro v2 μ3 hm; exact absurd hm (Nat.not_lt_zero _)
  | succ n ih =>
    intro v2 μ3 hm hi hF
    show ((μ3 k0 1) ≤ v2 → (Q μ3)) ∧ (¬ (μ3 k0 1) ≤ v2 → (∃ n4x, wpl_X2_becomeRound_36 k0 k1 v2 (fun (μ15 : TMem) => wpl_X2_becomeRound_26 k0 k1 Q n (v2 + (1 : Int32)) μ15) n4x (0 : Int32) μ3))
    refine ⟨fun c_ex => ?_, fun c_in => ?_⟩
    · exact h _ hF
    have e_k0_1 : μ3 k0 1 = μ0 k0 1 := hF.1 k0 1 (by rw [show kd k0 = 2 from hk0] <;> rfl)
    have c_lt : ¬ ((μ0 k0 1)) ≤ v2 := by
      rw [e_k0_1] at c_in
      exact c_in
    refine ⟨_, fl_wpl_X2_becomeRound_36 μ3 k0 hk0 k1 hk1 v2 ?_ _ (0 : Int32) μ3 (Nat.lt_succ_self _) (by first | decide | omega) Fr.rf⟩
    · intro μ15 hf243
      exact ih (v2 + (1 : Int32)) μ15 (lt_m c_lt (by omega)) (lt_p (by assumption) c_lt) (Fr.trans hF (Fr.up (by decide) hf243))
set_option maxHeartbeats 2000000 in
theorem f_X2_becomeRound (k0 : Nat) (hk0 : kd k0 = 2) (k1 : Nat) (hk1 : kd k1 = 2) (μ : TMem)  {Q : TMem → Prop} (h : ∀ μ9 : TMem, Fr 2 μ μ9 → Q μ9) : wp_X2_becomeRound k0 k1 μ Q := by
  show ∃ n0x, wpl_X2_becomeRound_26 k0 k1 Q n0x (0 : Int32) (tms (tms (tms μ k0 1 (μ k1 1)) k0 3 ((tms μ k0 1 (μ k1 1)) k1 2)) k0 2 ((tms (tms μ k0 1 (μ k1 1)) k0 3 ((tms μ k0 1 (μ k1 1)) k1 2)) k1 3))
  refine ⟨_, fl_wpl_X2_becomeRound_26 (tms (tms (tms μ k0 1 (μ k1 1)) k0 3 ((tms μ k0 1 (μ k1 1)) k1 2)) k0 2 ((tms (tms μ k0 1 (μ k1 1)) k0 3 ((tms μ k0 1 (μ k1 1)) k1 2)) k1 3)) k0 hk0 k1 hk1 (fun μ9 f9 => h μ9 (Fr.trans (Fr.st (Fr.st (Fr.st (Fr.rf) (by rw [show kd k0 = 2 from hk0] <;> rfl) (Or.inl (ne43 (K := 2) hk0 (by decide)))) (by rw [show kd k0 = 2 from hk0] <;> rfl) (Or.inl (ne43 (K := 2) hk0 (by decide)))) (by rw [show kd k0 = 2 from hk0] <;> rfl) (Or.inl (ne43 (K := 2) hk0 (by decide)))) (Fr.up (by decide) f9))) _ (0 : Int32) (tms (tms (tms μ k0 1 (μ k1 1)) k0 3 ((tms μ k0 1 (μ k1 1)) k1 2)) k0 2 ((tms (tms μ k0 1 (μ k1 1)) k0 3 ((tms μ k0 1 (μ k1 1)) k1 2)) k1 3)) (Nat.lt_succ_self _) (by first | decide | omega) Fr.rf⟩
