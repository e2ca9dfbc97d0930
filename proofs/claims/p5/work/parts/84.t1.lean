set_option maxHeartbeats 2000000 in
theorem f_X9_knock (μ : TMem)  {Q : Int32 → TMem → Prop} (h : ∀ (r : Int32) (μ9 : TMem), Fr 4 μ μ9 → Q r μ9) : wp_X9_knock μ Q := by
  show Q ((tms μ 0 13 ((μ 0 13) + (1 : Int32))) 0 13) (tms μ 0 13 ((μ 0 13) + (1 : Int32)))
  exact h _ _ (Fr.st (Fr.rf) (by rw [show kd 0 = 8 from rfl] <;> rfl) (Or.inl (ne43 (K := 8) rfl (by decide))))
set_option maxHeartbeats 2000000 in
theorem fl_wpl_X9_countCodes_4 (v4 : Int32) {Q : Int32 → Prop} (h : ∀ r : Int32, Q r) : ∀ (n : Nat) (v2 : Int32) (v3 : Int32), ((v4).toInt - (v2).toInt).toNat < n → 0 ≤ (v2).toInt → wpl_X9_countCodes_4 v4 Q n v2 v3 := by
  intro n
  induction n with
  | zero => intro v2 v3 hm; exact absurd hm (Nat.not_lt_zero _)
  | succ n ih =>
    intro v2 v3 hm hi
    show (v4 ≤ v2 → (Q v3)) ∧ (¬ v4 ≤ v2 → (wpl_X9_countCodes_4 v4 Q n (v2 + (1 : Int32)) (v3 * (3 : Int32))))
    refine ⟨fun c_ex => ?_, fun c_in => ?_⟩
    · exact h _
    have c_lt : ¬ (v4) ≤ v2 := c_in
    exact ih (v2 + (1 : Int32)) (v3 * (3 : Int32)) (lt_m c_lt (by omega)) (lt_p (by assumption) c_lt)
set_option maxHeartbeats 2000000 in
theorem f_X9_countCodes (a0 : Int32) {Q : Int32 → Prop} (h : ∀ r : Int32, Q r) : wp_X9_countCodes a0 Q := by
  show ∃ n0x, wpl_X9_countCodes_4 a0 Q n0x (0 : Int32) (1 : Int32)
  refine ⟨_, fl_wpl_X9_countCodes_4 a0 h _ (0 : Int32) (1 : Int32) (Nat.lt_succ_self _) (by first | decide | omega)⟩
set_option maxHeartbeats 2000000 in
theorem f_X9_isIn (a0 : Int32) (a1 : Int32) {Q : Int32 → Prop} (h : ∀ r : Int32, isB r → Q r) : wp_X9_isIn a0 a1 Q := by
  show (((a0 >>> (a1 &&& 31)) &&& (1 : Int32)) = 0 → (Q (0 : Int32))) ∧ (¬ ((a0 >>> (a1 &&& 31)) &&& (1 : Int32)) = 0 → (Q (1 : Int32)))
  refine ⟨fun c1 => ?_, fun c2 => ?_⟩
  · exact h _ (by first | assumption | exact Or.inl rfl | exact Or.inr rfl | exact isB_or (by assumption) (by first | assumption | exact Or.inl rfl | exact Or.inr rfl))
  · exact h _ (by first | assumption | exact Or.inl rfl | exact Or.inr rfl | exact isB_or (by assumption) (by first | assumption | exact Or.inl rfl | exact Or.inr rfl))
set_option maxHeartbeats 2000000 in
theorem f_X9_withOrWithout (a0 : Int32) (a1 : Int32) (a2 : Int32) {Q : Int32 → Prop} (h : ∀ r : Int32, Q r) : wp_X9_withOrWithout a0 a1 a2 Q := by
  show (a2 = 0 → (Q (a0 &&& (((1 : Int32) <<< (a1 &&& 31)) ^^^ (-1 : Int32))))) ∧ (¬ a2 = 0 → (Q (a0 ||| ((1 : Int32) <<< (a1 &&& 31)))))
  refine ⟨fun c3 => ?_, fun c4 => ?_⟩
  · exact h _
  · exact h _
set_option maxHeartbeats 2000000 in
theorem f_X9_letterOf (a0 : Int32) {Q : Int32 → Prop} (h : ∀ r : Int32, Q r) : wp_X9_letterOf a0 Q := by
  show Q ((((97 : Int32) + a0).toUInt32 % 65536).toInt32)
  exact h _
set_option maxHeartbeats 2000000 in
theorem f_X9_acted (μ : TMem) (a1 : Int32) {Q : Int32 → TMem → Prop} (h : ∀ (r : Int32) (μ9 : TMem), Fr 3 μ μ9 → Q r μ9) : wp_X9_acted μ a1 Q := by
  show Q a1 (tms μ 0 11 ((μ 0 11) + (1 : Int32)))
  exact h _ _ (Fr.st (Fr.rf) (by rw [show kd 0 = 8 from rfl] <;> rfl) (Or.inl (ne43 (K := 8) rfl (by decide))))
set_option maxHeartbeats 2000000 in
theorem f_X9_refuse (μ : TMem)  {Q : Int32 → TMem → Prop} (h : ∀ (r : Int32) (μ9 : TMem), Fr 3 μ μ9 → Q r μ9) : wp_X9_refuse μ Q := by
  show Q (-9 : Int32) (tms μ 0 12 ((μ 0 12) + (1 : Int32)))
  exact h _ _ (Fr.st (Fr.rf) (by rw [show kd 0 = 8 from rfl] <;> rfl) (Or.inl (ne43 (K := 8) rfl (by decide))))
set_option maxHeartbeats 2000000 in
theorem f_X7_at (k0 : Nat) (hk0 : kd k0 = 2 ∨ kd k0 = 5) (μ : TMem) (a1 : Int32) (a2 : Int32) {Q : Int32 → Prop} (h : ∀ r : Int32, Q r) : wp_X7_at k0 μ a1 a2 Q := by
  show (((a1 * (3 : Int32)) + a2) < 0 → (Q (0 : Int32))) ∧ (¬ ((a1 * (3 : Int32)) + a2) < 0 → (((nI (tl (k0 + 1))) ≤ ((a1 * (3 : Int32)) + a2) → (Q (0 : Int32))) ∧ (¬ (nI (tl (k0 + 1))) ≤ ((a1 * (3 : Int32)) + a2) → (vp_in ((a1 * (3 : Int32)) + a2) (tl (k0 + 1)) ∧ (Q (μ (k0 + 1) ((a1 * (3 : Int32)) + a2).toNatClampNeg))))))
  refine ⟨fun c5 => ?_, fun c6 => ?_⟩
  · exact h _
  · refine ⟨fun c7 => ?_, fun c8 => ?_⟩
    · exact h _
    · have hv9 : vp_in ((a1 * (3 : Int32)) + a2) (tl (k0 + 1)) := (by first | exact vp_a (by assumption) (by assumption) (tl_s _) | exact vp_b (by assumption) (by assumption) (tl_s _) | exact vp_a (n := 4) (by assumption) (by assumption) (by decide) | exact vp_b (n := 4) (by assumption) (by assumption) (by decide) | exact vp_c (by assumption) (by assumption))
      refine ⟨hv9, ?_⟩
      exact h _
set_option maxHeartbeats 2000000 in
theorem f_X7_put (k0 : Nat) (hk0 : kd k0 = 2 ∨ kd k0 = 5) (μ : TMem) (a1 : Int32) (a2 : Int32) (a3 : Int32) {Q : TMem → Prop} (h : ∀ μ9 : TMem, Fr 0 μ μ9 → Q μ9) : wp_X7_put k0 μ a1 a2 a3 Q := by
  show (((a1 * (3 : Int32)) + a2) < 0 → (Q μ)) ∧ (¬ ((a1 * (3 : Int32)) + a2) < 0 → (((nI (tl (k0 + 1))) ≤ ((a1 * (3 : Int32)) + a2) → (Q μ)) ∧ (¬ (nI (tl (k0 + 1))) ≤ ((a1 * (3 : Int32)) + a2) → (vp_in ((a1 * (3 : Int32)) + a2) (tl (k0 + 1)) ∧ (Q (tms μ (k0 + 1) ((a1 * (3 : Int32)) + a2).toNatClampNeg a3))))))
  refine ⟨fun c10 => ?_, fun c11 => ?_⟩
  · exact h _ (Fr.rf)
  · refine ⟨fun c12 => ?_, fun c13 => ?_⟩
    · exact h _ (Fr.rf)
    · have hv14 : vp_in ((a1 * (3 : Int32)) + a2) (tl (k0 + 1)) := (by first | exact vp_a (by assumption) (by assumption) (tl_s _) | exact vp_b (by assumption) (by assumption) (tl_s _) | exact vp_a (n := 4) (by assumption) (by assumption) (by decide) | exact vp_b (n := 4) (by assumption) (by assumption) (by decide) | exact vp_c (by assumption) (by assumption))
      refine ⟨hv14, ?_⟩
      exact h _ (Fr.st (Fr.rf) (by rw [show kd (k0 + 1) = 9 from (ka_25 hk0)] <;> rfl) (Or.inl (ne43b hk0)))
set_option maxHeartbeats 2000000 in
theorem fl_wpl_X2_becomePlain_33 (μ0 : TMem) (k0 : Nat) (hk0 : kd k0 = 2) (k1 : Nat) (hk1 : kd k1 = 5) (v7 : Int32) {K58 : TMem → Prop} (hK58 : ∀ (u0 : TMem), Fr 0 μ0 u0 → K58 u0) : ∀ (n : Nat) (v6 : Int32) (μ8 : TMem), (((3 : Int32)).toInt - (v6).toInt).toNat < n → 0 ≤ (v6).toInt → Fr 0 μ0 μ8 → wpl_X2_becomePlain_33 k0 k1 v7 K58 n v6 μ8 := by
  intro n
  induction n with
  | zero => intro v6 μ8 hm; exact absurd hm (Nat.not_lt_zero _)
  | succ n ih =>
    intro v6 μ8 hm hi hF
    show ((3 : Int32) ≤ v6 → (K58 μ8)) ∧ (¬ (3 : Int32) ≤ v6 → (wp_X7_at k1 μ8 v7 v6 (fun (r10 : Int32) => wp_X7_put k0 μ8 v7 v6 ((1 : Int32) <<< (r10 &&& 31)) (fun (μ13 : TMem) => wpl_X2_becomePlain_33 k0 k1 v7 K58 n (v6 + (1 : Int32)) μ13))))
    refine ⟨fun c_ex => ?_, fun c_in => ?_⟩
    · exact hK58 μ8 hF
    have c_lt : ¬ ((3 : Int32)) ≤ v6 := c_in
    refine f_X7_at k1 (Or.inr hk1) μ8 v7 v6 (fun r10 => ?_)
    refine f_X7_put k0 (Or.inl hk0) μ8 v7 v6 ((1 : Int32) <<< (r10 &&& 31)) (fun μ13 hf15 => ?_)
    exact ih (v6 + (1 : Int32)) μ13 (lt_m c_lt (by omega)) (lt_p (by assumption) c_lt) (Fr.trans hF (Fr.up (by decide) hf15))
set_option maxHeartbeats 2000000 in
theorem fl_wpl_X2_becomePlain_23 (μ0 : TMem) (k0 : Nat) (hk0 : kd k0 = 2) (k1 : Nat) (hk1 : kd k1 = 5) {Q : TMem → Prop} (h : ∀ μ9 : TMem, Fr 0 μ0 μ9 → Q μ9) : ∀ (n : Nat) (v2 : Int32) (μ3 : TMem), (((μ0 k0 1)).toInt - (v2).toInt).toNat < n → 0 ≤ (v2).toInt → Fr 0 μ0 μ3 → wpl_X2_becomePlain_23 k0 k1 Q n v2 μ3 := by
  intro n
  induction n with
  | zero => intro v2 μ3 hm; exact absurd hm (Nat.not_lt_zero _)
  | succ n ih =>
    intro v2 μ3 hm hi hF
    show ((μ3 k0 1) ≤ v2 → (Q μ3)) ∧ (¬ (μ3 k0 1) ≤ v2 → (∃ n4x, wpl_X2_becomePlain_33 k0 k1 v2 (fun (μ15 : TMem) => wpl_X2_becomePlain_23 k0 k1 Q n (v2 + (1 : Int32)) μ15) n4x (0 : Int32) μ3))
    refine ⟨fun c_ex => ?_, fun c_in => ?_⟩
    · exact h _ hF
    have e_k0_1 : μ3 k0 1 = μ0 k0 1 := hF.1 k0 1 (by rw [show kd k0 = 2 from hk0] <;> rfl)
    have c_lt : ¬ ((μ0 k0 1)) ≤ v2 := by
      rw [e_k0_1] at c_in
      exact c_in
    refine ⟨_, fl_wpl_X2_becomePlain_33 μ3 k0 hk0 k1 hk1 v2 ?_ _ (0 : Int32) μ3 (Nat.lt_succ_self _) (by first | decide | omega) Fr.rf⟩
    · intro μ15 hf16
      exact ih (v2 + (1 : Int32)) μ15 (lt_m c_lt (by omega)) (lt_p (by assumption) c_lt) (Fr.trans hF (Fr.up (by decide) hf16))
set_option maxHeartbeats 2000000 in
theorem f_X2_becomePlain (k0 : Nat) (hk0 : kd k0 = 2) (k1 : Nat) (hk1 : kd k1 = 5) (μ : TMem)  {Q : TMem → Prop} (h : ∀ μ9 : TMem, Fr 2 μ μ9 → Q μ9) : wp_X2_becomePlain k0 k1 μ Q := by
  show ∃ n0x, wpl_X2_becomePlain_23 k0 k1 Q n0x (0 : Int32) (tms (tms (tms μ k0 1 (μ k1 1)) k0 3 (1 : Int32)) k0 2 ((tms (tms μ k0 1 (μ k1 1)) k0 3 (1 : Int32)) k1 2))
  refine ⟨_, fl_wpl_X2_becomePlain_23 (tms (tms (tms μ k0 1 (μ k1 1)) k0 3 (1 : Int32)) k0 2 ((tms (tms μ k0 1 (μ k1 1)) k0 3 (1 : Int32)) k1 2)) k0 hk0 k1 hk1 (fun μ9 f9 => h μ9 (Fr.trans (Fr.st (Fr.st (Fr.st (Fr.rf) (by rw [show kd k0 = 2 from hk0] <;> rfl) (Or.inl (ne43 (K := 2) hk0 (by decide)))) (by rw [show kd k0 = 2 from hk0] <;> rfl) (Or.inl (ne43 (K := 2) hk0 (by decide)))) (by rw [show kd k0 = 2 from hk0] <;> rfl) (Or.inl (ne43 (K := 2) hk0 (by decide)))) (Fr.up (by decide) f9))) _ (0 : Int32) (tms (tms (tms μ k0 1 (μ k1 1)) k0 3 (1 : Int32)) k0 2 ((tms (tms μ k0 1 (μ k1 1)) k0 3 (1 : Int32)) k1 2)) (Nat.lt_succ_self _) (by first | decide | omega) Fr.rf⟩
set_option maxHeartbeats 2000000 in
theorem f_X9_becomeMade (k1 : Nat) (hk1 : kd k1 = 2) (μ : TMem)  {Q : Int32 → TMem → Prop} (h : ∀ (r : Int32) (μ9 : TMem), Fr 3 μ μ9 → Q r μ9) : wp_X9_becomeMade k1 μ Q := by
  show ((μ 57 1) ≤ (7 : Int32) → (wp_X2_becomePlain k1 57 μ (fun (μ2 : TMem) => wp_X9_acted μ2 (μ2 57 1) (fun (r4 : Int32) (μ3 : TMem) => Q r4 μ3)))) ∧ (¬ (μ 57 1) ≤ (7 : Int32) → (wp_X9_refuse μ (fun (r6 : Int32) (μ5 : TMem) => Q r6 μ5)))
  refine ⟨fun c17 => ?_, fun c18 => ?_⟩
  · refine f_X2_becomePlain k1 hk1 57 rfl μ (fun μ2 hf19 => ?_)
    refine f_X9_acted μ2 (μ2 57 1) (fun r4 μ3 hf20 => ?_)
    exact h _ _ (Fr.trans (Fr.trans (Fr.rf) (Fr.up (by decide) hf19)) (Fr.up (by decide) hf20))
  · refine f_X9_refuse μ (fun r6 μ5 hf21 => ?_)
    exact h _ _ (Fr.trans (Fr.rf) (Fr.up (by decide) hf21))
set_option maxHeartbeats 2000000 in
theorem f_X6_put (k0 : Nat) (hk0 : kd k0 = 6) (μ : TMem) (a1 : Int32) (a2 : Int32) (hv : k0 + 1 ≠ 43 ∨ rng a2) {Q : TMem → Prop} (h : ∀ μ9 : TMem, Fr 0 μ μ9 → Q μ9) : wp_X6_put k0 μ a1 a2 Q := by
  show (a1 < 0 → (Q μ)) ∧ (¬ a1 < 0 → (((nI (tl (k0 + 1))) ≤ a1 → (Q μ)) ∧ (¬ (nI (tl (k0 + 1))) ≤ a1 → (vp_in a1 (tl (k0 + 1)) ∧ (Q (tms μ (k0 + 1) a1.toNatClampNeg a2))))))
  refine ⟨fun c22 => ?_, fun c23 => ?_⟩
  · exact h _ (Fr.rf)
  · refine ⟨fun c24 => ?_, fun c25 => ?_⟩
    · exact h _ (Fr.rf)
    · have hv26 : vp_in a1 (tl (k0 + 1)) := (by first | exact vp_a (by assumption) (by assumption) (tl_s _) | exact vp_b (by assumption) (by assumption) (tl_s _) | exact vp_a (n := 4) (by assumption) (by assumption) (by decide) | exact vp_b (n := 4) (by assumption) (by assumption) (by decide) | exact vp_c (by assumption) (by assumption))
      refine ⟨hv26, ?_⟩
      exact h _ (Fr.st (Fr.rf) (by rw [show kd (k0 + 1) = 9 from (ka_6 hk0)] <;> rfl) hv)
set_option maxHeartbeats 2000000 in
theorem f_X6_at (k0 : Nat) (hk0 : kd k0 = 6) (μ : TMem) (a1 : Int32) {Q : Int32 → Prop} (h : ∀ r : Int32, Q r) : wp_X6_at k0 μ a1 Q := by
  show (a1 < 0 → (Q (0 : Int32))) ∧ (¬ a1 < 0 → (((nI (tl (k0 + 1))) ≤ a1 → (Q (0 : Int32))) ∧ (¬ (nI (tl (k0 + 1))) ≤ a1 → (vp_in a1 (tl (k0 + 1)) ∧ (Q (μ (k0 + 1) a1.toNatClampNeg))))))
  refine ⟨fun c27 => ?_, fun c28 => ?_⟩
  · exact h _
  · refine ⟨fun c29 => ?_, fun c30 => ?_⟩
    · exact h _
    · have hv31 : vp_in a1 (tl (k0 + 1)) := (by first | exact vp_a (by assumption) (by assumption) (tl_s _) | exact vp_b (by assumption) (by assumption) (tl_s _) | exact vp_a (n := 4) (by assumption) (by assumption) (by decide) | exact vp_b (n := 4) (by assumption) (by assumption) (by decide) | exact vp_c (by assumption) (by assumption))
      refine ⟨hv31, ?_⟩
      exact h _
set_option maxHeartbeats 2000000 in
theorem fl_wpl_X2_reach_5 (k0 : Nat) (hk0 : kd k0 = 2) (μ : TMem) (v4 : Int32) (v5 : Int32) {Q : Int32 → Prop} (h : ∀ r : Int32, Q r) : ∀ (n : Nat) (v2 : Int32) (v3 : Int32), (((μ k0 1)).toInt - (v2).toInt).toNat < n → 0 ≤ (v2).toInt → wpl_X2_reach_5 k0 μ v4 v5 Q n v2 v3 := by
  intro n
  induction n with
  | zero => intro v2 v3 hm; exact absurd hm (Nat.not_lt_zero _)
  | succ n ih =>
    intro v2 v3 hm hi
    show ((μ k0 1) ≤ v2 → (Q v3)) ∧ (¬ (μ k0 1) ≤ v2 → (wp_X9_isIn v4 v2 (fun (r7 : Int32) => (r7 = 0 → (wpl_X2_reach_5 k0 μ v4 v5 Q n (v2 + (1 : Int32)) v3)) ∧ (¬ r7 = 0 → (wp_X7_at k0 μ v2 v5 (fun (r9 : Int32) => wpl_X2_reach_5 k0 μ v4 v5 Q n (v2 + (1 : Int32)) (v3 ||| r9)))))))
    refine ⟨fun c_ex => ?_, fun c_in => ?_⟩
    · exact h _
    have c_lt : ¬ ((μ k0 1)) ≤ v2 := c_in
    refine f_X9_isIn v4 v2 (fun r7 b32 => ?_)
    refine ⟨fun c33 => ?_, fun c34 => ?_⟩
    · exact ih (v2 + (1 : Int32)) v3 (lt_m c_lt (by omega)) (lt_p (by assumption) c_lt)
    · refine f_X7_at k0 (Or.inl hk0) μ v2 v5 (fun r9 => ?_)
      exact ih (v2 + (1 : Int32)) (v3 ||| r9) (lt_m c_lt (by omega)) (lt_p (by assumption) c_lt)
set_option maxHeartbeats 2000000 in
theorem f_X2_reach (k0 : Nat) (hk0 : kd k0 = 2) (μ : TMem) (a1 : Int32) (a2 : Int32) {Q : Int32 → Prop} (h : ∀ r : Int32, Q r) : wp_X2_reach k0 μ a1 a2 Q := by
  show ∃ n0x, wpl_X2_reach_5 k0 μ a1 a2 Q n0x (0 : Int32) (0 : Int32)
  refine ⟨_, fl_wpl_X2_reach_5 k0 hk0 μ a1 a2 h _ (0 : Int32) (0 : Int32) (Nat.lt_succ_self _) (by first | decide | omega)⟩
set_option maxHeartbeats 2000000 in
theorem fl_wpl_X6_find_2 (k0 : Nat) (hk0 : kd k0 = 6) (μ : TMem) (v3 : Int32) (v4 : Int32) {Q : Int32 → Prop} (h : ∀ r : Int32, Q r) : ∀ (n : Nat) (v2 : Int32), ((v4).toInt - (v2).toInt).toNat < n → 0 ≤ (v2).toInt → wpl_X6_find_2 k0 μ v3 v4 Q n v2 := by
  intro n
  induction n with
  | zero => intro v2 hm; exact absurd hm (Nat.not_lt_zero _)
  | succ n ih =>
    intro v2 hm hi
    show (v4 ≤ v2 → (Q (-1 : Int32))) ∧ (¬ v4 ≤ v2 → (((nI (tl (k0 + 1))) ≤ v2 → (Q (-1 : Int32))) ∧ (¬ (nI (tl (k0 + 1))) ≤ v2 → (vp_in v2 (tl (k0 + 1)) ∧ ((¬ (μ (k0 + 1) v2.toNatClampNeg) = v3 → (wpl_X6_find_2 k0 μ v3 v4 Q n (v2 + (1 : Int32)))) ∧ ((μ (k0 + 1) v2.toNatClampNeg) = v3 → (Q v2)))))))
    refine ⟨fun c_ex => ?_, fun c_in => ?_⟩
    · exact h _
    have c_lt : ¬ (v4) ≤ v2 := c_in
    refine ⟨fun c35 => ?_, fun c36 => ?_⟩
    · exact h _
    · have hv37 : vp_in v2 (tl (k0 + 1)) := (by first | exact vp_a (by assumption) (by assumption) (tl_s _) | exact vp_b (by assumption) (by assumption) (tl_s _) | exact vp_a (n := 4) (by assumption) (by assumption) (by decide) | exact vp_b (n := 4) (by assumption) (by assumption) (by decide) | exact vp_c (by assumption) (by assumption))
      refine ⟨hv37, ?_⟩
      refine ⟨fun c38 => ?_, fun c39 => ?_⟩
      · exact ih (v2 + (1 : Int32)) (lt_m c_lt (by omega)) (lt_p (by assumption) c_lt)
      · exact h _
set_option maxHeartbeats 2000000 in
theorem f_X6_find (k0 : Nat) (hk0 : kd k0 = 6) (μ : TMem) (a1 : Int32) (a2 : Int32) {Q : Int32 → Prop} (h : ∀ r : Int32, Q r) : wp_X6_find k0 μ a1 a2 Q := by
  show ∃ n0x, wpl_X6_find_2 k0 μ a1 a2 Q n0x (0 : Int32)
  refine ⟨_, fl_wpl_X6_find_2 k0 hk0 μ a1 a2 h _ (0 : Int32) (Nat.lt_succ_self _) (by first | decide | omega)⟩
set_option maxHeartbeats 2000000 in
theorem f_X3_numberOf (k2 : Nat) (hk2 : kd k2 = 5) (μ : TMem) (a1 : Int32) {Q : Int32 → TMem → Prop} (h : ∀ (r : Int32) (μ9 : TMem), Fr 2 μ μ9 → Q r μ9) : wp_X3_numberOf k2 μ a1 Q := by
  show wp_X6_find 16 μ a1 (μ k2 1) (fun (r1 : Int32) => (¬ r1 = (-1 : Int32) → (Q r1 μ)) ∧ (r1 = (-1 : Int32) → (((μ k2 1) < (32 : Int32) → (wp_X6_put 16 μ (μ k2 1) a1 (fun (μ6 : TMem) => Q (((tms μ6 k2 1 ((μ6 k2 1) + (1 : Int32))) k2 1) - (1 : Int32)) (tms μ6 k2 1 ((μ6 k2 1) + (1 : Int32)))))) ∧ (¬ (μ k2 1) < (32 : Int32) → (Q r1 μ)))))
  refine f_X6_find 16 rfl μ a1 (μ k2 1) (fun r1 => ?_)
  refine ⟨fun c40 => ?_, fun c41 => ?_⟩
  · exact h _ _ (Fr.rf)
  · refine ⟨fun c42 => ?_, fun c43 => ?_⟩
    · refine f_X6_put 16 rfl μ (μ k2 1) a1 (Or.inl (by decide)) (fun μ6 hf44 => ?_)
      exact h _ _ (Fr.st (Fr.trans (Fr.rf) (Fr.up (by decide) hf44)) (by rw [show kd k2 = 5 from hk2] <;> rfl) (Or.inl (ne43 (K := 5) hk2 (by decide))))
    · exact h _ _ (Fr.rf)
set_option maxHeartbeats 2000000 in
theorem fl_wpl_X3_makeOneWay_78 (μ0 : TMem) (k1 : Nat) (hk1 : kd k1 = 2) (k2 : Nat) (hk2 : kd k2 = 5) (v15 : Int32) (v16 : Int32) {K122 : TMem → Prop} {Q : Int32 → TMem → Prop} (hK122 : ∀ (u0 : TMem), Fr 2 μ0 u0 → K122 u0) (h : ∀ (r : Int32) (μ9 : TMem), isB r → Fr 2 μ0 μ9 → Q r μ9) : ∀ (n : Nat) (v14 : Int32) (μ17 : TMem), (((3 : Int32)).toInt - (v14).toInt).toNat < n → 0 ≤ (v14).toInt → Fr 2 μ0 μ17 → wpl_X3_makeOneWay_78 k1 k2 v15 v16 K122 Q n v14 μ17 := by
  intro n
  induction n with
  | zero => intro v14 μ17 hm; exact absurd hm (Nat.not_lt_zero _)
  | succ n ih =>
    intro v14 μ17 hm hi hF
    show ((3 : Int32) ≤ v14 → (K122 μ17)) ∧ (¬ (3 : Int32) ≤ v14 → (wp_X2_reach k1 μ17 v15 v14 (fun (r19 : Int32) => wp_X3_numberOf k2 μ17 r19 (fun (r23 : Int32) (μ22 : TMem) => (¬ r23 = (-1 : Int32) → (wp_X7_put k2 μ22 v16 v14 r23 (fun (μ25 : TMem) => wpl_X3_makeOneWay_78 k1 k2 v15 v16 K122 Q n (v14 + (1 : Int32)) μ25))) ∧ (r23 = (-1 : Int32) → (Q (0 : Int32) μ22))))))
    refine ⟨fun c_ex => ?_, fun c_in => ?_⟩
    · exact hK122 μ17 hF
    have c_lt : ¬ ((3 : Int32)) ≤ v14 := c_in
    refine f_X2_reach k1 hk1 μ17 v15 v14 (fun r19 => ?_)
    refine f_X3_numberOf k2 hk2 μ17 r19 (fun r23 μ22 hf45 => ?_)
    refine ⟨fun c46 => ?_, fun c47 => ?_⟩
    · refine f_X7_put k2 (Or.inr hk2) μ22 v16 v14 r23 (fun μ25 hf48 => ?_)
      exact ih (v14 + (1 : Int32)) μ25 (lt_m c_lt (by omega)) (lt_p (by assumption) c_lt) (Fr.trans (Fr.trans hF (Fr.up (by decide) hf45)) (Fr.up (by decide) hf48))
    · exact h _ _ (by first | assumption | exact Or.inl rfl | exact Or.inr rfl | exact isB_or (by assumption) (by first | assumption | exact Or.inl rfl | exact Or.inr rfl)) (Fr.trans hF (Fr.up (by decide) hf45))
set_option maxHeartbeats 2000000 in
theorem fl_wpl_X3_makeOneWay_24 (μ0 : TMem) (k1 : Nat) (hk1 : kd k1 = 2) (k2 : Nat) (hk2 : kd k2 = 5) {Q : Int32 → TMem → Prop} (h : ∀ (r : Int32) (μ9 : TMem), isB r → Fr 2 μ0 μ9 → Q r μ9) : ∀ (n : Nat) (v3 : Int32) (μ4 : TMem), (((32 : Int32)).toInt - (v3).toInt).toNat < n → 0 ≤ (v3).toInt → Fr 2 μ0 μ4 → wpl_X3_makeOneWay_24 k1 k2 Q n v3 μ4 := by
  intro n
  induction n with
  | zero => intro v3 μ4 hm; exact absurd hm (Nat.not_lt_zero _)
  | succ n ih =>
    intro v3 μ4 hm hi hF
    show ((32 : Int32) ≤ v3 → (Q (1 : Int32) μ4)) ∧ (¬ (32 : Int32) ≤ v3 → (((μ4 k2 1) ≤ v3 → (Q (1 : Int32) μ4)) ∧ (¬ (μ4 k2 1) ≤ v3 → (wp_X6_at 16 μ4 v3 (fun (r7 : Int32) => ∀ J10 : Int32 → Prop, (∀ (j11 : Int32), (wp_X9_withOrWithout (μ4 k2 2) v3 j11 (fun (r12 : Int32) => ∃ n12x, wpl_X3_makeOneWay_78 k1 k2 r7 v3 (fun (μ27 : TMem) => wpl_X3_makeOneWay_24 k1 k2 Q n (v3 + (1 : Int32)) μ27) Q n12x (0 : Int32) (tms μ4 k2 2 r12))) → J10 j11) → (((r7 &&& (μ4 k1 2)) = 0 → (J10 (0 : Int32))) ∧ (¬ (r7 &&& (μ4 k1 2)) = 0 → (J10 (1 : Int32)))))))))
    refine ⟨fun c_ex => ?_, fun c_in => ?_⟩
    · exact h _ _ (by first | assumption | exact Or.inl rfl | exact Or.inr rfl | exact isB_or (by assumption) (by first | assumption | exact Or.inl rfl | exact Or.inr rfl)) hF
    have c_lt : ¬ ((32 : Int32)) ≤ v3 := c_in
    refine ⟨fun c49 => ?_, fun c50 => ?_⟩
    · exact h _ _ (by first | assumption | exact Or.inl rfl | exact Or.inr rfl | exact isB_or (by assumption) (by first | assumption | exact Or.inl rfl | exact Or.inr rfl)) hF
    · refine f_X6_at 16 rfl μ4 v3 (fun r7 => ?_)
      intro J10 hJ10
      refine ⟨fun c51 => ?_, fun c52 => ?_⟩
      · refine hJ10 (0 : Int32) ?_
        refine f_X9_withOrWithout (μ4 k2 2) v3 (0 : Int32) (fun r12 => ?_)
        refine ⟨_, fl_wpl_X3_makeOneWay_78 (tms μ4 k2 2 r12) k1 hk1 k2 hk2 r7 v3 ?_ (fun r9 μ9 b9 f9 => h r9 μ9 b9 (Fr.trans (Fr.st hF (by rw [show kd k2 = 5 from hk2] <;> rfl) (Or.inl (ne43 (K := 5) hk2 (by decide)))) (Fr.up (by decide) f9))) _ (0 : Int32) (tms μ4 k2 2 r12) (Nat.lt_succ_self _) (by first | decide | omega) Fr.rf⟩
        · intro μ27 hf53
          exact ih (v3 + (1 : Int32)) μ27 (lt_m c_lt (by omega)) (lt_p (by assumption) c_lt) (Fr.trans (Fr.st hF (by rw [show kd k2 = 5 from hk2] <;> rfl) (Or.inl (ne43 (K := 5) hk2 (by decide)))) (Fr.up (by decide) hf53))
      · refine hJ10 (1 : Int32) ?_
        refine f_X9_withOrWithout (μ4 k2 2) v3 (1 : Int32) (fun r12 => ?_)
        refine ⟨_, fl_wpl_X3_makeOneWay_78 (tms μ4 k2 2 r12) k1 hk1 k2 hk2 r7 v3 ?_ (fun r9 μ9 b9 f9 => h r9 μ9 b9 (Fr.trans (Fr.st hF (by rw [show kd k2 = 5 from hk2] <;> rfl) (Or.inl (ne43 (K := 5) hk2 (by decide)))) (Fr.up (by decide) f9))) _ (0 : Int32) (tms μ4 k2 2 r12) (Nat.lt_succ_self _) (by first | decide | omega) Fr.rf⟩
        · intro μ27 hf54
          exact ih (v3 + (1 : Int32)) μ27 (lt_m c_lt (by omega)) (lt_p (by assumption) c_lt) (Fr.trans (Fr.st hF (by rw [show kd k2 = 5 from hk2] <;> rfl) (Or.inl (ne43 (K := 5) hk2 (by decide)))) (Fr.up (by decide) hf54))
set_option maxHeartbeats 2000000 in
theorem f_X3_makeOneWay (k1 : Nat) (hk1 : kd k1 = 2) (k2 : Nat) (hk2 : kd k2 = 5) (μ : TMem)  {Q : Int32 → TMem → Prop} (h : ∀ (r : Int32) (μ9 : TMem), isB r → Fr 2 μ μ9 → Q r μ9) : wp_X3_makeOneWay k1 k2 μ Q := by
  show wp_X6_put 16 μ (0 : Int32) (μ k1 3) (fun (μ1 : TMem) => ∃ n1x, wpl_X3_makeOneWay_24 k1 k2 Q n1x (0 : Int32) (tms (tms μ1 k2 1 (1 : Int32)) k2 2 (0 : Int32)))
  refine f_X6_put 16 rfl μ (0 : Int32) (μ k1 3) (Or.inl (by decide)) (fun μ1 hf55 => ?_)
  refine ⟨_, fl_wpl_X3_makeOneWay_24 (tms (tms μ1 k2 1 (1 : Int32)) k2 2 (0 : Int32)) k1 hk1 k2 hk2 (fun r9 μ9 b9 f9 => h r9 μ9 b9 (Fr.trans (Fr.st (Fr.st (Fr.trans (Fr.rf) (Fr.up (by decide) hf55)) (by rw [show kd k2 = 5 from hk2] <;> rfl) (Or.inl (ne43 (K := 5) hk2 (by decide)))) (by rw [show kd k2 = 5 from hk2] <;> rfl) (Or.inl (ne43 (K := 5) hk2 (by decide)))) (Fr.up (by decide) f9))) _ (0 : Int32) (tms (tms μ1 k2 1 (1 : Int32)) k2 2 (0 : Int32)) (Nat.lt_succ_self _) (by first | decide | omega) Fr.rf⟩
set_option maxHeartbeats 2000000 in
theorem fl_wpl_X6_fill_2 (μ0 : TMem) (k0 : Nat) (hk0 : kd k0 = 6) (v3 : Int32) {Q : TMem → Prop} (h : ∀ μ9 : TMem, Fr 0 μ0 μ9 → Q μ9) (hv : k0 + 1 ≠ 43) : ∀ (n : Nat) (v2 : Int32) (μ4 : TMem), (((nI (tl (k0 + 1)))).toInt - (v2).toInt).toNat < n → 0 ≤ (v2).toInt → Fr 0 μ0 μ4 → wpl_X6_fill_2 k0 v3 Q n v2 μ4 := by
  intro n
  induction n with
  | zero => intro v2 μ4 hm; exact absurd hm (Nat.not_lt_zero _)
  | succ n ih =>
    intro v2 μ4 hm hi hF
    show ((nI (tl (k0 + 1))) ≤ v2 → (Q μ4)) ∧ (¬ (nI (tl (k0 + 1))) ≤ v2 → (vp_in v2 (tl (k0 + 1)) ∧ (wpl_X6_fill_2 k0 v3 Q n (v2 + (1 : Int32)) (tms μ4 (k0 + 1) v2.toNatClampNeg v3))))
    refine ⟨fun c_ex => ?_, fun c_in => ?_⟩
    · exact h _ hF
    have c_lt : ¬ ((nI (tl (k0 + 1)))) ≤ v2 := c_in
    have hv56 : vp_in v2 (tl (k0 + 1)) := (by first | exact vp_a (by assumption) (by assumption) (tl_s _) | exact vp_b (by assumption) (by assumption) (tl_s _) | exact vp_a (n := 4) (by assumption) (by assumption) (by decide) | exact vp_b (n := 4) (by assumption) (by assumption) (by decide) | exact vp_c (by assumption) (by assumption))
    refine ⟨hv56, ?_⟩
    exact ih (v2 + (1 : Int32)) (tms μ4 (k0 + 1) v2.toNatClampNeg v3) (lt_m c_lt (by omega)) (lt_p (by assumption) c_lt) (Fr.st hF (by rw [show kd (k0 + 1) = 9 from (ka_6 hk0)] <;> rfl) (Or.inl hv))
set_option maxHeartbeats 2000000 in
theorem f_X6_fill (k0 : Nat) (hk0 : kd k0 = 6) (μ : TMem) (a1 : Int32) (hv : k0 + 1 ≠ 43) {Q : TMem → Prop} (h : ∀ μ9 : TMem, Fr 0 μ μ9 → Q μ9) : wp_X6_fill k0 μ a1 Q := by
  show ∃ n0x, wpl_X6_fill_2 k0 a1 Q n0x (0 : Int32) μ
  refine ⟨_, fl_wpl_X6_fill_2 μ k0 hk0 a1 (fun μ9 f9 => h μ9 (Fr.trans (Fr.rf) (Fr.up (by decide) f9))) hv _ (0 : Int32) μ (Nat.lt_succ_self _) (by first | decide | omega) Fr.rf⟩
set_option maxHeartbeats 2000000 in
theorem f_X4_isGoal (μ : TMem) (a1 : Int32) (a2 : Int32) {Q : Int32 → Prop} (h : ∀ r : Int32, isB r → Q r) : wp_X4_isGoal μ a1 a2 Q := by
  show wp_X6_at 36 μ a1 (fun (r1 : Int32) => wp_X9_isIn (μ 35 6) r1 (fun (r4 : Int32) => wp_X6_at 38 μ a1 (fun (r5 : Int32) => wp_X9_isIn (μ 35 7) r5 (fun (r8 : Int32) => (a2 = (0 : Int32) → ((¬ r4 = 0 → (Q (1 : Int32))) ∧ (r4 = 0 → ((r8 = 0 → (Q (0 : Int32))) ∧ (¬ r8 = 0 → (Q (1 : Int32))))))) ∧ (¬ a2 = (0 : Int32) → (a2 = (1 : Int32) → ((r4 = 0 → (Q (0 : Int32))) ∧ (¬ r4 = 0 → ((r8 = 0 → (Q (0 : Int32))) ∧ (¬ r8 = 0 → (Q (1 : Int32))))))) ∧ (¬ a2 = (1 : Int32) → (a2 = (2 : Int32) → ((r4 = 0 → (Q (0 : Int32))) ∧ (¬ r4 = 0 → ((¬ r8 = 0 → (Q (0 : Int32))) ∧ (r8 = 0 → (Q (1 : Int32))))))) ∧ (¬ a2 = (2 : Int32) → ((r4 = r8 → (Q (0 : Int32))) ∧ (¬ r4 = r8 → (Q (1 : Int32)))))))))))
  refine f_X6_at 36 rfl μ a1 (fun r1 => ?_)
  refine f_X9_isIn (μ 35 6) r1 (fun r4 b57 => ?_)
  refine f_X6_at 38 rfl μ a1 (fun r5 => ?_)
  refine f_X9_isIn (μ 35 7) r5 (fun r8 b58 => ?_)
  refine ⟨fun c59 => ?_, fun c60 => ?_⟩
  · refine ⟨fun c61 => ?_, fun c62 => ?_⟩
    · exact h _ (by first | assumption | exact Or.inl rfl | exact Or.inr rfl | exact isB_or (by assumption) (by first | assumption | exact Or.inl rfl | exact Or.inr rfl))
    · refine ⟨fun c63 => ?_, fun c64 => ?_⟩
      · exact h _ (by first | assumption | exact Or.inl rfl | exact Or.inr rfl | exact isB_or (by assumption) (by first | assumption | exact Or.inl rfl | exact Or.inr rfl))
      · exact h _ (by first | assumption | exact Or.inl rfl | exact Or.inr rfl | exact isB_or (by assumption) (by first | assumption | exact Or.inl rfl | exact Or.inr rfl))
  · refine ⟨fun c65 => ?_, fun c66 => ?_⟩
    · refine ⟨fun c67 => ?_, fun c68 => ?_⟩
      · exact h _ (by first | assumption | exact Or.inl rfl | exact Or.inr rfl | exact isB_or (by assumption) (by first | assumption | exact Or.inl rfl | exact Or.inr rfl))
      · refine ⟨fun c69 => ?_, fun c70 => ?_⟩
        · exact h _ (by first | assumption | exact Or.inl rfl | exact Or.inr rfl | exact isB_or (by assumption) (by first | assumption | exact Or.inl rfl | exact Or.inr rfl))
        · exact h _ (by first | assumption | exact Or.inl rfl | exact Or.inr rfl | exact isB_or (by assumption) (by first | assumption | exact Or.inl rfl | exact Or.inr rfl))
    · refine ⟨fun c71 => ?_, fun c72 => ?_⟩
      · refine ⟨fun c73 => ?_, fun c74 => ?_⟩
        · exact h _ (by first | assumption | exact Or.inl rfl | exact Or.inr rfl | exact isB_or (by assumption) (by first | assumption | exact Or.inl rfl | exact Or.inr rfl))
        · refine ⟨fun c75 => ?_, fun c76 => ?_⟩
          · exact h _ (by first | assumption | exact Or.inl rfl | exact Or.inr rfl | exact isB_or (by assumption) (by first | assumption | exact Or.inl rfl | exact Or.inr rfl))
          · exact h _ (by first | assumption | exact Or.inl rfl | exact Or.inr rfl | exact isB_or (by assumption) (by first | assumption | exact Or.inl rfl | exact Or.inr rfl))
      · refine ⟨fun c77 => ?_, fun c78 => ?_⟩
        · exact h _ (by first | assumption | exact Or.inl rfl | exact Or.inr rfl | exact isB_or (by assumption) (by first | assumption | exact Or.inl rfl | exact Or.inr rfl))
        · exact h _ (by first | assumption | exact Or.inl rfl | exact Or.inr rfl | exact isB_or (by assumption) (by first | assumption | exact Or.inl rfl | exact Or.inr rfl))
set_option maxHeartbeats 2000000 in
theorem f_X4_add (μ : TMem) (a1 : Int32) (a2 : Int32) (a3 : Int32) (a4 : Int32) (hv : rng a4) {Q : TMem → Prop} (h : ∀ μ9 : TMem, Fr 1 μ μ9 → Q μ9) : wp_X4_add μ a1 a2 a3 a4 Q := by
  show wp_X6_put 36 μ (μ 35 8) a1 (fun (μ1 : TMem) => wp_X6_put 38 μ1 (μ1 35 8) a2 (fun (μ2 : TMem) => wp_X6_put 40 μ2 (μ2 35 8) a3 (fun (μ3 : TMem) => wp_X6_put 42 μ3 (μ3 35 8) a4 (fun (μ4 : TMem) => wp_X6_put 46 μ4 ((a1 * (32 : Int32)) + a2) (μ4 35 8) (fun (μ5 : TMem) => (¬ (μ5 35 9) = (-1 : Int32) → (Q (tms μ5 35 8 ((μ5 35 8) + (1 : Int32))))) ∧ ((μ5 35 9) = (-1 : Int32) → (wp_X4_isGoal μ5 (μ5 35 8) (3 : Int32) (fun (r7 : Int32) => (r7 = 0 → (Q (tms μ5 35 8 ((μ5 35 8) + (1 : Int32))))) ∧ (¬ r7 = 0 → (Q (tms (tms μ5 35 9 (μ5 35 8)) 35 8 (((tms μ5 35 9 (μ5 35 8)) 35 8) + (1 : Int32)))))))))))))
  refine f_X6_put 36 rfl μ (μ 35 8) a1 (Or.inl (by decide)) (fun μ1 hf79 => ?_)
  refine f_X6_put 38 rfl μ1 (μ1 35 8) a2 (Or.inl (by decide)) (fun μ2 hf80 => ?_)
  refine f_X6_put 40 rfl μ2 (μ2 35 8) a3 (Or.inl (by decide)) (fun μ3 hf81 => ?_)
  refine f_X6_put 42 rfl μ3 (μ3 35 8) a4 (Or.inr hv) (fun μ4 hf82 => ?_)
  refine f_X6_put 46 rfl μ4 ((a1 * (32 : Int32)) + a2) (μ4 35 8) (Or.inl (by decide)) (fun μ5 hf83 => ?_)
  refine ⟨fun c84 => ?_, fun c85 => ?_⟩
  · exact h _ (Fr.st (Fr.trans (Fr.trans (Fr.trans (Fr.trans (Fr.trans (Fr.rf) (Fr.up (by decide) hf79)) (Fr.up (by decide) hf80)) (Fr.up (by decide) hf81)) (Fr.up (by decide) hf82)) (Fr.up (by decide) hf83)) (by rw [show kd 35 = 4 from rfl] <;> rfl) (Or.inl (ne43 (K := 4) rfl (by decide))))
  · refine f_X4_isGoal μ5 (μ5 35 8) (3 : Int32) (fun r7 b86 => ?_)
    refine ⟨fun c87 => ?_, fun c88 => ?_⟩
    · exact h _ (Fr.st (Fr.trans (Fr.trans (Fr.trans (Fr.trans (Fr.trans (Fr.rf) (Fr.up (by decide) hf79)) (Fr.up (by decide) hf80)) (Fr.up (by decide) hf81)) (Fr.up (by decide) hf82)) (Fr.up (by decide) hf83)) (by rw [show kd 35 = 4 from rfl] <;> rfl) (Or.inl (ne43 (K := 4) rfl (by decide))))
    · exact h _ (Fr.st (Fr.st (Fr.trans (Fr.trans (Fr.trans (Fr.trans (Fr.trans (Fr.rf) (Fr.up (by decide) hf79)) (Fr.up (by decide) hf80)) (Fr.up (by decide) hf81)) (Fr.up (by decide) hf82)) (Fr.up (by decide) hf83)) (by rw [show kd 35 = 4 from rfl] <;> rfl) (Or.inl (ne43 (K := 4) rfl (by decide)))) (by rw [show kd 35 = 4 from rfl] <;> rfl) (Or.inl (ne43 (K := 4) rfl (by decide))))
set_option maxHeartbeats 2000000 in
theorem fl_wpl_X4_meet_63 (μ0 : TMem) (k1 : Nat) (hk1 : kd k1 = 5) (k2 : Nat) (hk2 : kd k2 = 5) (v12 : Int32) (v13 : Int32) (v14 : Int32) {K194 : TMem → Prop} {Q : Int32 → TMem → Prop} (hK194 : ∀ (u0 : TMem), Fr 1 μ0 u0 → K194 u0) (h : ∀ (r : Int32) (μ9 : TMem), isB r → Fr 1 μ0 μ9 → Q r μ9) : ∀ (n : Nat) (v11 : Int32) (μ15 : TMem), (((3 : Int32)).toInt - (v11).toInt).toNat < n → 0 ≤ (v11).toInt → Fr 1 μ0 μ15 → wpl_X4_meet_63 k1 k2 v12 v13 v14 K194 Q n v11 μ15 := by
  intro n
  induction n with
  | zero => intro v11 μ15 hm; exact absurd hm (Nat.not_lt_zero _)
  | succ n ih =>
    intro v11 μ15 hm hi hF
    show ((3 : Int32) ≤ v11 → (K194 μ15)) ∧ (¬ (3 : Int32) ≤ v11 → (((μ15 35 9) = (-1 : Int32) → (wp_X6_at 36 μ15 v12 (fun (r18 : Int32) => wp_X7_at k1 μ15 r18 v11 (fun (r21 : Int32) => wp_X6_at 38 μ15 v12 (fun (r24 : Int32) => wp_X7_at k2 μ15 r24 v11 (fun (r27 : Int32) => wp_X6_at 46 μ15 ((r21 * (32 : Int32)) + r27) (fun (r30 : Int32) => (¬ r30 = (-1 : Int32) → (wp_X6_at 46 μ15 ((r21 * (32 : Int32)) + r27) (fun (r34 : Int32) => wp_X6_put 44 μ15 ((v12 * (3 : Int32)) + v11) r34 (fun (μ37 : TMem) => wpl_X4_meet_63 k1 k2 v12 v13 v14 K194 Q n (v11 + (1 : Int32)) μ37)))) ∧ (r30 = (-1 : Int32) → (((μ15 35 8) < v13 → (wp_X4_add μ15 r21 r27 v12 v11 (fun (μ39 : TMem) => wp_X6_at 46 μ39 ((r21 * (32 : Int32)) + r27) (fun (r40 : Int32) => wp_X6_put 44 μ39 ((v12 * (3 : Int32)) + v11) r40 (fun (μ43 : TMem) => wpl_X4_meet_63 k1 k2 v12 v13 v14 K194 Q n (v11 + (1 : Int32)) μ43))))) ∧ (¬ (μ15 35 8) < v13 → (Q (0 : Int32) μ15))))))))))) ∧ (¬ (μ15 35 9) = (-1 : Int32) → ((¬ v14 = 0 → (wp_X6_at 36 μ15 v12 (fun (r45 : Int32) => wp_X7_at k1 μ15 r45 v11 (fun (r48 : Int32) => wp_X6_at 38 μ15 v12 (fun (r51 : Int32) => wp_X7_at k2 μ15 r51 v11 (fun (r54 : Int32) => wp_X6_at 46 μ15 ((r48 * (32 : Int32)) + r54) (fun (r57 : Int32) => (¬ r57 = (-1 : Int32) → (wp_X6_at 46 μ15 ((r48 * (32 : Int32)) + r54) (fun (r61 : Int32) => wp_X6_put 44 μ15 ((v12 * (3 : Int32)) + v11) r61 (fun (μ64 : TMem) => wpl_X4_meet_63 k1 k2 v12 v13 v14 K194 Q n (v11 + (1 : Int32)) μ64)))) ∧ (r57 = (-1 : Int32) → (((μ15 35 8) < v13 → (wp_X4_add μ15 r48 r54 v12 v11 (fun (μ66 : TMem) => wp_X6_at 46 μ66 ((r48 * (32 : Int32)) + r54) (fun (r67 : Int32) => wp_X6_put 44 μ66 ((v12 * (3 : Int32)) + v11) r67 (fun (μ70 : TMem) => wpl_X4_meet_63 k1 k2 v12 v13 v14 K194 Q n (v11 + (1 : Int32)) μ70))))) ∧ (¬ (μ15 35 8) < v13 → (Q (0 : Int32) μ15))))))))))) ∧ (v14 = 0 → (Q (1 : Int32) μ15))))))
    refine ⟨fun c_ex => ?_, fun c_in => ?_⟩
    · exact hK194 μ15 hF
    have c_lt : ¬ ((3 : Int32)) ≤ v11 := c_in
    refine ⟨fun c89 => ?_, fun c90 => ?_⟩
    · refine f_X6_at 36 rfl μ15 v12 (fun r18 => ?_)
      refine f_X7_at k1 (Or.inr hk1) μ15 r18 v11 (fun r21 => ?_)
      refine f_X6_at 38 rfl μ15 v12 (fun r24 => ?_)
      refine f_X7_at k2 (Or.inr hk2) μ15 r24 v11 (fun r27 => ?_)
      refine f_X6_at 46 rfl μ15 ((r21 * (32 : Int32)) + r27) (fun r30 => ?_)
      refine ⟨fun c91 => ?_, fun c92 => ?_⟩
      · refine f_X6_at 46 rfl μ15 ((r21 * (32 : Int32)) + r27) (fun r34 => ?_)
        refine f_X6_put 44 rfl μ15 ((v12 * (3 : Int32)) + v11) r34 (Or.inl (by decide)) (fun μ37 hf93 => ?_)
        exact ih (v11 + (1 : Int32)) μ37 (lt_m c_lt (by omega)) (lt_p (by assumption) c_lt) (Fr.trans hF (Fr.up (by decide) hf93))
      · refine ⟨fun c94 => ?_, fun c95 => ?_⟩
        · refine f_X4_add μ15 r21 r27 v12 v11 (rng3 hi c_lt) (fun μ39 hf96 => ?_)
          refine f_X6_at 46 rfl μ39 ((r21 * (32 : Int32)) + r27) (fun r40 => ?_)
          refine f_X6_put 44 rfl μ39 ((v12 * (3 : Int32)) + v11) r40 (Or.inl (by decide)) (fun μ43 hf97 => ?_)
          exact ih (v11 + (1 : Int32)) μ43 (lt_m c_lt (by omega)) (lt_p (by assumption) c_lt) (Fr.trans (Fr.trans hF (Fr.up (by decide) hf96)) (Fr.up (by decide) hf97))
        · exact h _ _ (by first | assumption | exact Or.inl rfl | exact Or.inr rfl | exact isB_or (by assumption) (by first | assumption | exact Or.inl rfl | exact Or.inr rfl)) hF
    · refine ⟨fun c98 => ?_, fun c99 => ?_⟩
      · refine f_X6_at 36 rfl μ15 v12 (fun r45 => ?_)
        refine f_X7_at k1 (Or.inr hk1) μ15 r45 v11 (fun r48 => ?_)
        refine f_X6_at 38 rfl μ15 v12 (fun r51 => ?_)
        refine f_X7_at k2 (Or.inr hk2) μ15 r51 v11 (fun r54 => ?_)
        refine f_X6_at 46 rfl μ15 ((r48 * (32 : Int32)) + r54) (fun r57 => ?_)
        refine ⟨fun c100 => ?_, fun c101 => ?_⟩
        · refine f_X6_at 46 rfl μ15 ((r48 * (32 : Int32)) + r54) (fun r61 => ?_)
          refine f_X6_put 44 rfl μ15 ((v12 * (3 : Int32)) + v11) r61 (Or.inl (by decide)) (fun μ64 hf102 => ?_)
          exact ih (v11 + (1 : Int32)) μ64 (lt_m c_lt (by omega)) (lt_p (by assumption) c_lt) (Fr.trans hF (Fr.up (by decide) hf102))
        · refine ⟨fun c103 => ?_, fun c104 => ?_⟩
          · refine f_X4_add μ15 r48 r54 v12 v11 (rng3 hi c_lt) (fun μ66 hf105 => ?_)
            refine f_X6_at 46 rfl μ66 ((r48 * (32 : Int32)) + r54) (fun r67 => ?_)
            refine f_X6_put 44 rfl μ66 ((v12 * (3 : Int32)) + v11) r67 (Or.inl (by decide)) (fun μ70 hf106 => ?_)
            exact ih (v11 + (1 : Int32)) μ70 (lt_m c_lt (by omega)) (lt_p (by assumption) c_lt) (Fr.trans (Fr.trans hF (Fr.up (by decide) hf105)) (Fr.up (by decide) hf106))
          · exact h _ _ (by first | assumption | exact Or.inl rfl | exact Or.inr rfl | exact isB_or (by assumption) (by first | assumption | exact Or.inl rfl | exact Or.inr rfl)) hF
      · exact h _ _ (by first | assumption | exact Or.inl rfl | exact Or.inr rfl | exact isB_or (by assumption) (by first | assumption | exact Or.inl rfl | exact Or.inr rfl)) hF
set_option maxHeartbeats 2000000 in
theorem fl_wpl_X4_meet_45 (μ0 : TMem) (k1 : Nat) (hk1 : kd k1 = 5) (k2 : Nat) (hk2 : kd k2 = 5) (v5 : Int32) (v6 : Int32) {Q : Int32 → TMem → Prop} (h : ∀ (r : Int32) (μ9 : TMem), isB r → Fr 1 μ0 μ9 → Q r μ9) : ∀ (n : Nat) (v4 : Int32) (μ7 : TMem), ((v5).toInt - (v4).toInt).toNat < n → 0 ≤ (v4).toInt → Fr 1 μ0 μ7 → wpl_X4_meet_45 k1 k2 v5 v6 Q n v4 μ7 := by
  intro n
  induction n with
  | zero => intro v4 μ7 hm; exact absurd hm (Nat.not_lt_zero _)
  | succ n ih =>
    intro v4 μ7 hm hi hF
    show (v5 ≤ v4 → (Q (1 : Int32) μ7)) ∧ (¬ v5 ≤ v4 → (((μ7 35 8) ≤ v4 → (Q (1 : Int32) μ7)) ∧ (¬ (μ7 35 8) ≤ v4 → (∃ n9x, wpl_X4_meet_63 k1 k2 v4 v5 v6 (fun (μ72 : TMem) => wpl_X4_meet_45 k1 k2 v5 v6 Q n (v4 + (1 : Int32)) μ72) Q n9x (0 : Int32) μ7))))
    refine ⟨fun c_ex => ?_, fun c_in => ?_⟩
    · exact h _ _ (by first | assumption | exact Or.inl rfl | exact Or.inr rfl | exact isB_or (by assumption) (by first | assumption | exact Or.inl rfl | exact Or.inr rfl)) hF
    have c_lt : ¬ (v5) ≤ v4 := c_in
    refine ⟨fun c107 => ?_, fun c108 => ?_⟩
    · exact h _ _ (by first | assumption | exact Or.inl rfl | exact Or.inr rfl | exact isB_or (by assumption) (by first | assumption | exact Or.inl rfl | exact Or.inr rfl)) hF
    · refine ⟨_, fl_wpl_X4_meet_63 μ7 k1 hk1 k2 hk2 v4 v5 v6 ?_ (fun r9 μ9 b9 f9 => h r9 μ9 b9 (Fr.trans hF (Fr.up (by decide) f9))) _ (0 : Int32) μ7 (Nat.lt_succ_self _) (by first | decide | omega) Fr.rf⟩
      · intro μ72 hf109
        exact ih (v4 + (1 : Int32)) μ72 (lt_m c_lt (by omega)) (lt_p (by assumption) c_lt) (Fr.trans hF (Fr.up (by decide) hf109))
set_option maxHeartbeats 2000000 in
theorem f_X4_meet (k1 : Nat) (hk1 : kd k1 = 5) (k2 : Nat) (hk2 : kd k2 = 5) (μ : TMem) (a3 : Int32) (a4 : Int32) {Q : Int32 → TMem → Prop} (h : ∀ (r : Int32) (μ9 : TMem), isB r → Fr 1 μ μ9 → Q r μ9) : wp_X4_meet k1 k2 μ a3 a4 Q := by
  show wp_X6_fill 46 μ (-1 : Int32) (fun (μ1 : TMem) => wp_X4_add (tms (tms (tms (tms μ1 35 6 (μ1 k1 2)) 35 7 ((tms μ1 35 6 (μ1 k1 2)) k2 2)) 35 8 (0 : Int32)) 35 9 (-1 : Int32)) (0 : Int32) (0 : Int32) (-1 : Int32) (-1 : Int32) (fun (μ2 : TMem) => ∃ n2x, wpl_X4_meet_45 k1 k2 a3 a4 Q n2x (0 : Int32) μ2))
  refine f_X6_fill 46 rfl μ (-1 : Int32) (by decide) (fun μ1 hf110 => ?_)
  refine f_X4_add (tms (tms (tms (tms μ1 35 6 (μ1 k1 2)) 35 7 ((tms μ1 35 6 (μ1 k1 2)) k2 2)) 35 8 (0 : Int32)) 35 9 (-1 : Int32)) (0 : Int32) (0 : Int32) (-1 : Int32) (-1 : Int32) ⟨by decide, by decide⟩ (fun μ2 hf111 => ?_)
  refine ⟨_, fl_wpl_X4_meet_45 μ2 k1 hk1 k2 hk2 a3 a4 (fun r9 μ9 b9 f9 => h r9 μ9 b9 (Fr.trans (Fr.trans (Fr.st (Fr.st (Fr.st (Fr.st (Fr.trans (Fr.rf) (Fr.up (by decide) hf110)) (by rw [show kd 35 = 4 from rfl] <;> rfl) (Or.inl (ne43 (K := 4) rfl (by decide)))) (by rw [show kd 35 = 4 from rfl] <;> rfl) (Or.inl (ne43 (K := 4) rfl (by decide)))) (by rw [show kd 35 = 4 from rfl] <;> rfl) (Or.inl (ne43 (K := 4) rfl (by decide)))) (by rw [show kd 35 = 4 from rfl] <;> rfl) (Or.inl (ne43 (K := 4) rfl (by decide)))) (Fr.up (by decide) hf111)) (Fr.up (by decide) f9))) _ (0 : Int32) μ2 (Nat.lt_succ_self _) (by first | decide | omega) Fr.rf⟩
set_option maxHeartbeats 2000000 in
theorem f_X9_meetPairs (k1 : Nat) (hk1 : kd k1 = 2) (k2 : Nat) (hk2 : kd k2 = 2) (μ : TMem) (a3 : Int32) (a4 : Int32) {Q : Int32 → TMem → Prop} (h : ∀ (r : Int32) (μ9 : TMem), isB r → Fr 2 μ μ9 → Q r μ9) : wp_X9_meetPairs k1 k2 μ a3 a4 Q := by
  show wp_X3_makeOneWay k1 51 μ (fun (r2 : Int32) (μ1 : TMem) => (r2 = 0 → (Q (0 : Int32) μ1)) ∧ (¬ r2 = 0 → (wp_X3_makeOneWay k2 53 μ1 (fun (r5 : Int32) (μ4 : TMem) => (r5 = 0 → (Q (0 : Int32) μ4)) ∧ (¬ r5 = 0 → (wp_X4_meet 51 53 μ4 a3 a4 (fun (r8 : Int32) (μ7 : TMem) => (r8 = 0 → (Q (0 : Int32) μ7)) ∧ (¬ r8 = 0 → (Q (1 : Int32) μ7)))))))))
  refine f_X3_makeOneWay k1 hk1 51 rfl μ (fun r2 μ1 b112 hf113 => ?_)
  refine ⟨fun c114 => ?_, fun c115 => ?_⟩
  · exact h _ _ (by first | assumption | exact Or.inl rfl | exact Or.inr rfl | exact isB_or (by assumption) (by first | assumption | exact Or.inl rfl | exact Or.inr rfl)) (Fr.trans (Fr.rf) (Fr.up (by decide) hf113))
  · refine f_X3_makeOneWay k2 hk2 53 rfl μ1 (fun r5 μ4 b116 hf117 => ?_)
    refine ⟨fun c118 => ?_, fun c119 => ?_⟩
    · exact h _ _ (by first | assumption | exact Or.inl rfl | exact Or.inr rfl | exact isB_or (by assumption) (by first | assumption | exact Or.inl rfl | exact Or.inr rfl)) (Fr.trans (Fr.trans (Fr.rf) (Fr.up (by decide) hf113)) (Fr.up (by decide) hf117))
    · refine f_X4_meet 51 rfl 53 rfl μ4 a3 a4 (fun r8 μ7 b120 hf121 => ?_)
      refine ⟨fun c122 => ?_, fun c123 => ?_⟩
      · exact h _ _ (by first | assumption | exact Or.inl rfl | exact Or.inr rfl | exact isB_or (by assumption) (by first | assumption | exact Or.inl rfl | exact Or.inr rfl)) (Fr.trans (Fr.trans (Fr.trans (Fr.rf) (Fr.up (by decide) hf113)) (Fr.up (by decide) hf117)) (Fr.up (by decide) hf121))
      · exact h _ _ (by first | assumption | exact Or.inl rfl | exact Or.inr rfl | exact isB_or (by assumption) (by first | assumption | exact Or.inl rfl | exact Or.inr rfl)) (Fr.trans (Fr.trans (Fr.trans (Fr.rf) (Fr.up (by decide) hf113)) (Fr.up (by decide) hf117)) (Fr.up (by decide) hf121))
set_option maxHeartbeats 2000000 in
theorem f_X4_target (μ : TMem) (a1 : Int32) (a2 : Int32) {Q : Int32 → Prop} (h : ∀ r : Int32, Q r) : wp_X4_target μ a1 a2 Q := by
  show wp_X6_at 44 μ ((a1 * (3 : Int32)) + a2) (fun (r1 : Int32) => Q r1)
  refine f_X6_at 44 rfl μ ((a1 * (3 : Int32)) + a2) (fun r1 => ?_)
  exact h _
set_option maxHeartbeats 2000000 in
theorem fl_wpl_X5_becomePairs_44 (μ0 : TMem) (k0 : Nat) (hk0 : kd k0 = 5) (v12 : Int32) (v13 : Int32) {K70 : TMem → Prop} (hK70 : ∀ (u0 : TMem), Fr 0 μ0 u0 → K70 u0) : ∀ (n : Nat) (v11 : Int32) (μ14 : TMem), (((3 : Int32)).toInt - (v11).toInt).toNat < n → 0 ≤ (v11).toInt → Fr 0 μ0 μ14 → wpl_X5_becomePairs_44 k0 v12 v13 K70 n v11 μ14 := by
  intro n
  induction n with
  | zero => intro v11 μ14 hm; exact absurd hm (Nat.not_lt_zero _)
  | succ n ih =>
    intro v11 μ14 hm hi hF
    show ((3 : Int32) ≤ v11 → (K70 μ14)) ∧ (¬ (3 : Int32) ≤ v11 → (wp_X4_target μ14 v12 v11 (fun (r16 : Int32) => wp_X7_put k0 μ14 v12 v11 r16 (fun (μ19 : TMem) => wpl_X5_becomePairs_44 k0 v12 v13 K70 n (v11 + (1 : Int32)) μ19))))
    refine ⟨fun c_ex => ?_, fun c_in => ?_⟩
    · exact hK70 μ14 hF
    have c_lt : ¬ ((3 : Int32)) ≤ v11 := c_in
    refine f_X4_target μ14 v12 v11 (fun r16 => ?_)
    refine f_X7_put k0 (Or.inr hk0) μ14 v12 v11 r16 (fun μ19 hf124 => ?_)
    exact ih (v11 + (1 : Int32)) μ19 (lt_m c_lt (by omega)) (lt_p (by assumption) c_lt) (Fr.trans hF (Fr.up (by decide) hf124))
set_option maxHeartbeats 2000000 in
theorem fl_wpl_X5_becomePairs_15 (μ0 : TMem) (k0 : Nat) (hk0 : kd k0 = 5) (v3 : Int32) {Q : TMem → Prop} (h : ∀ μ9 : TMem, Fr 1 μ0 μ9 → Q μ9) : ∀ (n : Nat) (v2 : Int32) (μ4 : TMem), (((μ0 k0 1)).toInt - (v2).toInt).toNat < n → 0 ≤ (v2).toInt → Fr 1 μ0 μ4 → wpl_X5_becomePairs_15 k0 v3 Q n v2 μ4 := by
  intro n
  induction n with
  | zero => intro v2 μ4 hm; exact absurd hm (Nat.not_lt_zero _)
  | succ n ih =>
    intro v2 μ4 hm hi hF
    show ((μ4 k0 1) ≤ v2 → (Q μ4)) ∧ (¬ (μ4 k0 1) ≤ v2 → (wp_X4_isGoal μ4 v2 v3 (fun (r6 : Int32) => wp_X9_withOrWithout (μ4 k0 2) v2 r6 (fun (r9 : Int32) => ∃ n9x, wpl_X5_becomePairs_44 k0 v2 v3 (fun (μ21 : TMem) => wpl_X5_becomePairs_15 k0 v3 Q n (v2 + (1 : Int32)) μ21) n9x (0 : Int32) (tms μ4 k0 2 r9)))))
    refine ⟨fun c_ex => ?_, fun c_in => ?_⟩
    · exact h _ hF
    have e_k0_1 : μ4 k0 1 = μ0 k0 1 := hF.1 k0 1 (by rw [show kd k0 = 5 from hk0] <;> rfl)
    have c_lt : ¬ ((μ0 k0 1)) ≤ v2 := by
      rw [e_k0_1] at c_in
      exact c_in
    refine f_X4_isGoal μ4 v2 v3 (fun r6 b125 => ?_)
    refine f_X9_withOrWithout (μ4 k0 2) v2 r6 (fun r9 => ?_)
    refine ⟨_, fl_wpl_X5_becomePairs_44 (tms μ4 k0 2 r9) k0 hk0 v2 v3 ?_ _ (0 : Int32) (tms μ4 k0 2 r9) (Nat.lt_succ_self _) (by first | decide | omega) Fr.rf⟩
    · intro μ21 hf126
      exact ih (v2 + (1 : Int32)) μ21 (lt_m c_lt (by omega)) (lt_p (by assumption) c_lt) (Fr.trans (Fr.st hF (by rw [show kd k0 = 5 from hk0] <;> rfl) (Or.inl (ne43 (K := 5) hk0 (by decide)))) (Fr.up (by decide) hf126))
set_option maxHeartbeats 2000000 in
theorem f_X5_becomePairs (k0 : Nat) (hk0 : kd k0 = 5) (μ : TMem) (a2 : Int32) {Q : TMem → Prop} (h : ∀ μ9 : TMem, Fr 2 μ μ9 → Q μ9) : wp_X5_becomePairs k0 μ a2 Q := by
  show ∃ n0x, wpl_X5_becomePairs_15 k0 a2 Q n0x (0 : Int32) (tms (tms μ k0 1 (μ 35 8)) k0 2 (0 : Int32))
  refine ⟨_, fl_wpl_X5_becomePairs_15 (tms (tms μ k0 1 (μ 35 8)) k0 2 (0 : Int32)) k0 hk0 a2 (fun μ9 f9 => h μ9 (Fr.trans (Fr.st (Fr.st (Fr.rf) (by rw [show kd k0 = 5 from hk0] <;> rfl) (Or.inl (ne43 (K := 5) hk0 (by decide)))) (by rw [show kd k0 = 5 from hk0] <;> rfl) (Or.inl (ne43 (K := 5) hk0 (by decide)))) (Fr.up (by decide) f9))) _ (0 : Int32) (tms (tms μ k0 1 (μ 35 8)) k0 2 (0 : Int32)) (Nat.lt_succ_self _) (by first | decide | omega) Fr.rf⟩
set_option maxHeartbeats 2000000 in
theorem f_X5_isGoal (k0 : Nat) (hk0 : kd k0 = 5) (μ : TMem) (a1 : Int32) {Q : Int32 → Prop} (h : ∀ r : Int32, isB r → Q r) : wp_X5_isGoal k0 μ a1 Q := by
  show wp_X9_isIn (μ k0 2) a1 (fun (r1 : Int32) => isB r1 ∧ Q r1)
  refine f_X9_isIn (μ k0 2) a1 (fun r1 b127 => ?_)
  refine ⟨(by first | assumption | exact Or.inl rfl | exact Or.inr rfl | exact isB_or (by assumption) (by first | assumption | exact Or.inl rfl | exact Or.inr rfl)), ?_⟩
  exact h _ (by first | assumption | exact Or.inl rfl | exact Or.inr rfl | exact isB_or (by assumption) (by first | assumption | exact Or.inl rfl | exact Or.inr rfl))
set_option maxHeartbeats 2000000 in
theorem fl_wpl_X1_firstOfGoalness_2 (k0 : Nat) (hk0 : kd k0 = 5) (μ : TMem) (v3 : Int32) {Q : Int32 → Prop} (h : ∀ r : Int32, Q r) : ∀ (n : Nat) (v2 : Int32), ((v3).toInt - (v2).toInt).toNat < n → 0 ≤ (v2).toInt → wpl_X1_firstOfGoalness_2 k0 μ v3 Q n v2 := by
  intro n
  induction n with
  | zero => intro v2 hm; exact absurd hm (Nat.not_lt_zero _)
  | succ n ih =>
    intro v2 hm hi
    show (v3 ≤ v2 → (Q v3)) ∧ (¬ v3 ≤ v2 → (wp_X5_isGoal k0 μ v2 (fun (r5 : Int32) => wp_X5_isGoal k0 μ v3 (fun (r8 : Int32) => (¬ r5 = r8 → (wpl_X1_firstOfGoalness_2 k0 μ v3 Q n (v2 + (1 : Int32)))) ∧ (r5 = r8 → (Q v2))))))
    refine ⟨fun c_ex => ?_, fun c_in => ?_⟩
    · exact h _
    have c_lt : ¬ (v3) ≤ v2 := c_in
    refine f_X5_isGoal k0 hk0 μ v2 (fun r5 b128 => ?_)
    refine f_X5_isGoal k0 hk0 μ v3 (fun r8 b129 => ?_)
    refine ⟨fun c130 => ?_, fun c131 => ?_⟩
    · exact ih (v2 + (1 : Int32)) (lt_m c_lt (by omega)) (lt_p (by assumption) c_lt)
    · exact h _
set_option maxHeartbeats 2000000 in
theorem f_X1_firstOfGoalness (k0 : Nat) (hk0 : kd k0 = 5) (μ : TMem) (a1 : Int32) {Q : Int32 → Prop} (h : ∀ r : Int32, Q r) : wp_X1_firstOfGoalness k0 μ a1 Q := by
  show ∃ n0x, wpl_X1_firstOfGoalness_2 k0 μ a1 Q n0x (0 : Int32)
  refine ⟨_, fl_wpl_X1_firstOfGoalness_2 k0 hk0 μ a1 h _ (0 : Int32) (Nat.lt_succ_self _) (by first | decide | omega)⟩
set_option maxHeartbeats 2000000 in
theorem fl_wpl_X1_codeOf_12 (k1 : Nat) (hk1 : kd k1 = 5) (μ : TMem) (v7 : Int32) {Q : Int32 → Prop} (h : ∀ r : Int32, Q r) : ∀ (n : Nat) (v5 : Int32) (v6 : Int32), (((3 : Int32)).toInt - (v5).toInt).toNat < n → 0 ≤ (v5).toInt → wpl_X1_codeOf_12 k1 μ v7 Q n v5 v6 := by
  intro n
  induction n with
  | zero => intro v5 v6 hm; exact absurd hm (Nat.not_lt_zero _)
  | succ n ih =>
    intro v5 v6 hm hi
    show ((3 : Int32) ≤ v5 → (Q v6)) ∧ (¬ (3 : Int32) ≤ v5 → (wp_X7_at k1 μ v7 v5 (fun (r9 : Int32) => wp_X6_at 23 μ r9 (fun (r12 : Int32) => wpl_X1_codeOf_12 k1 μ v7 Q n (v5 + (1 : Int32)) ((v6 * (32 : Int32)) + r12)))))
    refine ⟨fun c_ex => ?_, fun c_in => ?_⟩
    · exact h _
    have c_lt : ¬ ((3 : Int32)) ≤ v5 := c_in
    refine f_X7_at k1 (Or.inr hk1) μ v7 v5 (fun r9 => ?_)
    refine f_X6_at 23 rfl μ r9 (fun r12 => ?_)
    exact ih (v5 + (1 : Int32)) ((v6 * (32 : Int32)) + r12) (lt_m c_lt (by omega)) (lt_p (by assumption) c_lt)
set_option maxHeartbeats 2000000 in
theorem f_X1_codeOf (k1 : Nat) (hk1 : kd k1 = 5) (μ : TMem) (a2 : Int32) {Q : Int32 → Prop} (h : ∀ r : Int32, Q r) : wp_X1_codeOf k1 μ a2 Q := by
  show wp_X6_at 23 μ a2 (fun (r1 : Int32) => ∃ n3x, wpl_X1_codeOf_12 k1 μ a2 Q n3x (0 : Int32) r1)
  refine f_X6_at 23 rfl μ a2 (fun r1 => ?_)
  refine ⟨_, fl_wpl_X1_codeOf_12 k1 hk1 μ a2 h _ (0 : Int32) r1 (Nat.lt_succ_self _) (by first | decide | omega)⟩
set_option maxHeartbeats 2000000 in
theorem fl_wpl_X1_partOnce_2 (μ0 : TMem) (k1 : Nat) (hk1 : kd k1 = 5) {K30 : TMem → Prop} (hK30 : ∀ (u0 : TMem), Fr 0 μ0 u0 → K30 u0) : ∀ (n : Nat) (v2 : Int32) (μ3 : TMem), (((μ0 k1 1)).toInt - (v2).toInt).toNat < n → 0 ≤ (v2).toInt → Fr 0 μ0 μ3 → wpl_X1_partOnce_2 k1 K30 n v2 μ3 := by
  intro n
  induction n with
  | zero => intro v2 μ3 hm; exact absurd hm (Nat.not_lt_zero _)
  | succ n ih =>
    intro v2 μ3 hm hi hF
    show ((μ3 k1 1) ≤ v2 → (K30 μ3)) ∧ (¬ (μ3 k1 1) ≤ v2 → (wp_X1_codeOf k1 μ3 v2 (fun (r5 : Int32) => wp_X6_put 25 μ3 v2 r5 (fun (μ8 : TMem) => wpl_X1_partOnce_2 k1 K30 n (v2 + (1 : Int32)) μ8))))
    refine ⟨fun c_ex => ?_, fun c_in => ?_⟩
    · exact hK30 μ3 hF
    have e_k1_1 : μ3 k1 1 = μ0 k1 1 := hF.1 k1 1 (by rw [show kd k1 = 5 from hk1] <;> rfl)
    have c_lt : ¬ ((μ0 k1 1)) ≤ v2 := by
      rw [e_k1_1] at c_in
      exact c_in
    refine f_X1_codeOf k1 hk1 μ3 v2 (fun r5 => ?_)
    refine f_X6_put 25 rfl μ3 v2 r5 (Or.inl (by decide)) (fun μ8 hf132 => ?_)
    exact ih (v2 + (1 : Int32)) μ8 (lt_m c_lt (by omega)) (lt_p (by assumption) c_lt) (Fr.trans hF (Fr.up (by decide) hf132))
set_option maxHeartbeats 2000000 in
theorem fl_wpl_X1_partOnce_34 (μ0 : TMem) (k1 : Nat) (hk1 : kd k1 = 5) {Q : Int32 → TMem → Prop} (h : ∀ (r : Int32) (μ9 : TMem), isB r → Fr 0 μ0 μ9 → Q r μ9) : ∀ (n : Nat) (v12 : Int32) (v13 : Int32) (μ14 : TMem), (((μ0 k1 1)).toInt - (v12).toInt).toNat < n → 0 ≤ (v12).toInt → isB v13 → Fr 0 μ0 μ14 → wpl_X1_partOnce_34 k1 Q n v12 v13 μ14 := by
  intro n
  induction n with
  | zero => intro v12 v13 μ14 hm; exact absurd hm (Nat.not_lt_zero _)
  | succ n ih =>
    intro v12 v13 μ14 hm hi bv13 hF
    show ((μ14 k1 1) ≤ v12 → (isB v13 ∧ Q v13 μ14)) ∧ (¬ (μ14 k1 1) ≤ v12 → (wp_X6_at 25 μ14 v12 (fun (r17 : Int32) => wp_X6_find 25 μ14 r17 (μ14 k1 1) (fun (r20 : Int32) => wp_X6_at 23 μ14 v12 (fun (r23 : Int32) => ∀ J26 : Int32 → Prop, (∀ (j27 : Int32), (wp_X6_put 23 μ14 v12 r20 (fun (μ28 : TMem) => wpl_X1_partOnce_34 k1 Q n (v12 + (1 : Int32)) (v13 ||| j27) μ28)) → J26 j27) → ((r20 = r23 → (J26 (0 : Int32))) ∧ (¬ r20 = r23 → (J26 (1 : Int32)))))))))
    refine ⟨fun c_ex => ?_, fun c_in => ?_⟩
    · refine ⟨(by first | assumption | exact Or.inl rfl | exact Or.inr rfl | exact isB_or (by assumption) (by first | assumption | exact Or.inl rfl | exact Or.inr rfl)), ?_⟩
      exact h _ _ (by first | assumption | exact Or.inl rfl | exact Or.inr rfl | exact isB_or (by assumption) (by first | assumption | exact Or.inl rfl | exact Or.inr rfl)) hF
    have e_k1_1 : μ14 k1 1 = μ0 k1 1 := hF.1 k1 1 (by rw [show kd k1 = 5 from hk1] <;> rfl)
    have c_lt : ¬ ((μ0 k1 1)) ≤ v12 := by
      rw [e_k1_1] at c_in
      exact c_in
    refine f_X6_at 25 rfl μ14 v12 (fun r17 => ?_)
    refine f_X6_find 25 rfl μ14 r17 (μ14 k1 1) (fun r20 => ?_)
    refine f_X6_at 23 rfl μ14 v12 (fun r23 => ?_)
    intro J26 hJ26
    refine ⟨fun c133 => ?_, fun c134 => ?_⟩
    · refine hJ26 (0 : Int32) ?_
      refine f_X6_put 23 rfl μ14 v12 r20 (Or.inl (by decide)) (fun μ28 hf135 => ?_)
      exact ih (v12 + (1 : Int32)) (v13 ||| (0 : Int32)) μ28 (lt_m c_lt (by omega)) (lt_p (by assumption) c_lt) (by first | assumption | exact Or.inl rfl | exact Or.inr rfl | exact isB_or (by assumption) (by first | assumption | exact Or.inl rfl | exact Or.inr rfl)) (Fr.trans hF (Fr.up (by decide) hf135))
    · refine hJ26 (1 : Int32) ?_
      refine f_X6_put 23 rfl μ14 v12 r20 (Or.inl (by decide)) (fun μ28 hf136 => ?_)
      exact ih (v12 + (1 : Int32)) (v13 ||| (1 : Int32)) μ28 (lt_m c_lt (by omega)) (lt_p (by assumption) c_lt) (by first | assumption | exact Or.inl rfl | exact Or.inr rfl | exact isB_or (by assumption) (by first | assumption | exact Or.inl rfl | exact Or.inr rfl)) (Fr.trans hF (Fr.up (by decide) hf136))
set_option maxHeartbeats 2000000 in
theorem f_X1_partOnce (k1 : Nat) (hk1 : kd k1 = 5) (μ : TMem)  {Q : Int32 → TMem → Prop} (h : ∀ (r : Int32) (μ9 : TMem), isB r → Fr 0 μ μ9 → Q r μ9) : wp_X1_partOnce k1 μ Q := by
  show ∃ n0x, wpl_X1_partOnce_2 k1 (fun (μ10 : TMem) => ∃ n10x, wpl_X1_partOnce_34 k1 Q n10x (0 : Int32) (0 : Int32) μ10) n0x (0 : Int32) μ
  refine ⟨_, fl_wpl_X1_partOnce_2 μ k1 hk1 ?_ _ (0 : Int32) μ (Nat.lt_succ_self _) (by first | decide | omega) Fr.rf⟩
  · intro μ10 hf137
    refine ⟨_, fl_wpl_X1_partOnce_34 μ10 k1 hk1 (fun r9 μ9 b9 f9 => h r9 μ9 b9 (Fr.trans (Fr.trans (Fr.rf) (Fr.up (by decide) hf137)) (Fr.up (by decide) f9))) _ (0 : Int32) (0 : Int32) μ10 (Nat.lt_succ_self _) (by first | decide | omega) (by first | assumption | exact Or.inl rfl | exact Or.inr rfl | exact isB_or (by assumption) (by first | assumption | exact Or.inl rfl | exact Or.inr rfl)) Fr.rf⟩
set_option maxHeartbeats 2000000 in
theorem fl_wpl_X1_findByParting_2 (μ0 : TMem) (k1 : Nat) (hk1 : kd k1 = 5) {K29 : TMem → Prop} (hK29 : ∀ (u0 : TMem), Fr 0 μ0 u0 → K29 u0) : ∀ (n : Nat) (v2 : Int32) (μ3 : TMem), (((μ0 k1 1)).toInt - (v2).toInt).toNat < n → 0 ≤ (v2).toInt → Fr 0 μ0 μ3 → wpl_X1_findByParting_2 k1 K29 n v2 μ3 := by
  intro n
  induction n with
  | zero => intro v2 μ3 hm; exact absurd hm (Nat.not_lt_zero _)
  | succ n ih =>
    intro v2 μ3 hm hi hF
    show ((μ3 k1 1) ≤ v2 → (K29 μ3)) ∧ (¬ (μ3 k1 1) ≤ v2 → (wp_X1_firstOfGoalness k1 μ3 v2 (fun (r5 : Int32) => wp_X6_put 23 μ3 v2 r5 (fun (μ8 : TMem) => wpl_X1_findByParting_2 k1 K29 n (v2 + (1 : Int32)) μ8))))
    refine ⟨fun c_ex => ?_, fun c_in => ?_⟩
    · exact hK29 μ3 hF
    have e_k1_1 : μ3 k1 1 = μ0 k1 1 := hF.1 k1 1 (by rw [show kd k1 = 5 from hk1] <;> rfl)
    have c_lt : ¬ ((μ0 k1 1)) ≤ v2 := by
      rw [e_k1_1] at c_in
      exact c_in
    refine f_X1_firstOfGoalness k1 hk1 μ3 v2 (fun r5 => ?_)
    refine f_X6_put 23 rfl μ3 v2 r5 (Or.inl (by decide)) (fun μ8 hf138 => ?_)
    exact ih (v2 + (1 : Int32)) μ8 (lt_m c_lt (by omega)) (lt_p (by assumption) c_lt) (Fr.trans hF (Fr.up (by decide) hf138))
set_option maxHeartbeats 2000000 in
theorem fl_wpl_X1_findByParting_33 (μ0 : TMem) (k1 : Nat) (hk1 : kd k1 = 5) {Q : TMem → Prop} (h : ∀ μ9 : TMem, Fr 0 μ0 μ9 → Q μ9) : ∀ (n : Nat) (v12 : Int32) (v13 : Int32) (μ14 : TMem), (((32 : Int32)).toInt - (v12).toInt).toNat < n → 0 ≤ (v12).toInt → Fr 0 μ0 μ14 → wpl_X1_findByParting_33 k1 Q n v12 v13 μ14 := by
  intro n
  induction n with
  | zero => intro v12 v13 μ14 hm; exact absurd hm (Nat.not_lt_zero _)
  | succ n ih =>
    intro v12 v13 μ14 hm hi hF
    show ((32 : Int32) ≤ v12 → (Q μ14)) ∧ (¬ (32 : Int32) ≤ v12 → ((v13 = 0 → (Q μ14)) ∧ (¬ v13 = 0 → (wp_X1_partOnce k1 μ14 (fun (r18 : Int32) (μ17 : TMem) => wpl_X1_findByParting_33 k1 Q n (v12 + (1 : Int32)) r18 μ17)))))
    refine ⟨fun c_ex => ?_, fun c_in => ?_⟩
    · exact h _ hF
    have c_lt : ¬ ((32 : Int32)) ≤ v12 := c_in
    refine ⟨fun c139 => ?_, fun c140 => ?_⟩
    · exact h _ hF
    · refine f_X1_partOnce k1 hk1 μ14 (fun r18 μ17 b141 hf142 => ?_)
      exact ih (v12 + (1 : Int32)) r18 μ17 (lt_m c_lt (by omega)) (lt_p (by assumption) c_lt) (Fr.trans hF (Fr.up (by decide) hf142))
set_option maxHeartbeats 2000000 in
theorem f_X1_findByParting (k1 : Nat) (hk1 : kd k1 = 5) (μ : TMem)  {Q : TMem → Prop} (h : ∀ μ9 : TMem, Fr 0 μ μ9 → Q μ9) : wp_X1_findByParting k1 μ Q := by
  show ∃ n0x, wpl_X1_findByParting_2 k1 (fun (μ10 : TMem) => ∃ n10x, wpl_X1_findByParting_33 k1 Q n10x (0 : Int32) (1 : Int32) μ10) n0x (0 : Int32) μ
  refine ⟨_, fl_wpl_X1_findByParting_2 μ k1 hk1 ?_ _ (0 : Int32) μ (Nat.lt_succ_self _) (by first | decide | omega) Fr.rf⟩
  · intro μ10 hf143
    refine ⟨_, fl_wpl_X1_findByParting_33 μ10 k1 hk1 (fun μ9 f9 => h μ9 (Fr.trans (Fr.trans (Fr.rf) (Fr.up (by decide) hf143)) (Fr.up (by decide) f9))) _ (0 : Int32) (1 : Int32) μ10 (Nat.lt_succ_self _) (by first | decide | omega) Fr.rf⟩
set_option maxHeartbeats 2000000 in
theorem f_X1_partOf (μ : TMem) (a1 : Int32) {Q : Int32 → Prop} (h : ∀ r : Int32, Q r) : wp_X1_partOf μ a1 Q := by
  show wp_X6_at 23 μ a1 (fun (r1 : Int32) => Q r1)
  refine f_X6_at 23 rfl μ a1 (fun r1 => ?_)
  exact h _
set_option maxHeartbeats 2000000 in
theorem f_X3_groupNumber (k2 : Nat) (hk2 : kd k2 = 5) (μ : TMem) (a1 : Int32) {Q : Int32 → TMem → Prop} (h : ∀ (r : Int32) (μ9 : TMem), Fr 2 μ μ9 → Q r μ9) : wp_X3_groupNumber k2 μ a1 Q := by
  show wp_X1_partOf μ a1 (fun (r1 : Int32) => wp_X6_at 20 μ r1 (fun (r4 : Int32) => ∀ J7 : TMem → Prop, (∀ (μ8 : TMem), (wp_X6_at 20 μ8 r1 (fun (r9 : Int32) => Q r9 μ8)) → J7 μ8) → ((¬ r4 = (-1 : Int32) → (wp_X6_at 20 μ r1 (fun (r13 : Int32) => Q r13 μ))) ∧ (r4 = (-1 : Int32) → (wp_X6_put 20 μ r1 (μ k2 1) (fun (μ16 : TMem) => wp_X6_put 18 μ16 (μ16 k2 1) a1 (fun (μ17 : TMem) => J7 (tms μ17 k2 1 ((μ17 k2 1) + (1 : Int32))))))))))
  refine f_X1_partOf μ a1 (fun r1 => ?_)
  refine f_X6_at 20 rfl μ r1 (fun r4 => ?_)
  intro J7 hJ7
  refine ⟨fun c144 => ?_, fun c145 => ?_⟩
  · refine f_X6_at 20 rfl μ r1 (fun r13 => ?_)
    exact h _ _ (Fr.rf)
  · refine f_X6_put 20 rfl μ r1 (μ k2 1) (Or.inl (by decide)) (fun μ16 hf146 => ?_)
    refine f_X6_put 18 rfl μ16 (μ16 k2 1) a1 (Or.inl (by decide)) (fun μ17 hf147 => ?_)
    refine hJ7 (tms μ17 k2 1 ((μ17 k2 1) + (1 : Int32))) ?_
    refine f_X6_at 20 rfl (tms μ17 k2 1 ((μ17 k2 1) + (1 : Int32))) r1 (fun r9 => ?_)
    exact h _ _ (Fr.st (Fr.trans (Fr.trans (Fr.rf) (Fr.up (by decide) hf146)) (Fr.up (by decide) hf147)) (by rw [show kd k2 = 5 from hk2] <;> rfl) (Or.inl (ne43 (K := 5) hk2 (by decide))))
set_option maxHeartbeats 2000000 in
theorem fl_wpl_X3_makeGroups_90 (μ0 : TMem) (k1 : Nat) (hk1 : kd k1 = 5) (k2 : Nat) (hk2 : kd k2 = 5) (v21 : Int32) (v22 : Int32) {K122 : TMem → Prop} (hK122 : ∀ (u0 : TMem), Fr 2 μ0 u0 → K122 u0) : ∀ (n : Nat) (v20 : Int32) (μ23 : TMem), (((3 : Int32)).toInt - (v20).toInt).toNat < n → 0 ≤ (v20).toInt → Fr 2 μ0 μ23 → wpl_X3_makeGroups_90 k1 k2 v21 v22 K122 n v20 μ23 := by
  intro n
  induction n with
  | zero => intro v20 μ23 hm; exact absurd hm (Nat.not_lt_zero _)
  | succ n ih =>
    intro v20 μ23 hm hi hF
    show ((3 : Int32) ≤ v20 → (K122 μ23)) ∧ (¬ (3 : Int32) ≤ v20 → (wp_X7_at k1 μ23 v21 v20 (fun (r25 : Int32) => wp_X3_groupNumber k2 μ23 r25 (fun (r29 : Int32) (μ28 : TMem) => wp_X7_put k2 μ28 v22 v20 r29 (fun (μ30 : TMem) => wpl_X3_makeGroups_90 k1 k2 v21 v22 K122 n (v20 + (1 : Int32)) μ30)))))
    refine ⟨fun c_ex => ?_, fun c_in => ?_⟩
    · exact hK122 μ23 hF
    have c_lt : ¬ ((3 : Int32)) ≤ v20 := c_in
    refine f_X7_at k1 (Or.inr hk1) μ23 v21 v20 (fun r25 => ?_)
    refine f_X3_groupNumber k2 hk2 μ23 r25 (fun r29 μ28 hf148 => ?_)
    refine f_X7_put k2 (Or.inr hk2) μ28 v22 v20 r29 (fun μ30 hf149 => ?_)
    exact ih (v20 + (1 : Int32)) μ30 (lt_m c_lt (by omega)) (lt_p (by assumption) c_lt) (Fr.trans (Fr.trans hF (Fr.up (by decide) hf148)) (Fr.up (by decide) hf149))
set_option maxHeartbeats 2000000 in
theorem fl_wpl_X3_makeGroups_45 (μ0 : TMem) (k1 : Nat) (hk1 : kd k1 = 5) (k2 : Nat) (hk2 : kd k2 = 5) {Q : TMem → Prop} (h : ∀ μ9 : TMem, Fr 2 μ0 μ9 → Q μ9) : ∀ (n : Nat) (v8 : Int32) (μ9 : TMem), (((32 : Int32)).toInt - (v8).toInt).toNat < n → 0 ≤ (v8).toInt → Fr 2 μ0 μ9 → wpl_X3_makeGroups_45 k1 k2 Q n v8 μ9 := by
  intro n
  induction n with
  | zero => intro v8 μ9 hm; exact absurd hm (Nat.not_lt_zero _)
  | succ n ih =>
    intro v8 μ9 hm hi hF
    show ((32 : Int32) ≤ v8 → (Q μ9)) ∧ (¬ (32 : Int32) ≤ v8 → (((μ9 k2 1) ≤ v8 → (Q μ9)) ∧ (¬ (μ9 k2 1) ≤ v8 → (wp_X6_at 18 μ9 v8 (fun (r12 : Int32) => wp_X5_isGoal k1 μ9 r12 (fun (r15 : Int32) => wp_X9_withOrWithout (μ9 k2 2) v8 r15 (fun (r18 : Int32) => ∃ n18x, wpl_X3_makeGroups_90 k1 k2 r12 v8 (fun (μ32 : TMem) => wpl_X3_makeGroups_45 k1 k2 Q n (v8 + (1 : Int32)) μ32) n18x (0 : Int32) (tms μ9 k2 2 r18))))))))
    refine ⟨fun c_ex => ?_, fun c_in => ?_⟩
    · exact h _ hF
    have c_lt : ¬ ((32 : Int32)) ≤ v8 := c_in
    refine ⟨fun c150 => ?_, fun c151 => ?_⟩
    · exact h _ hF
    · refine f_X6_at 18 rfl μ9 v8 (fun r12 => ?_)
      refine f_X5_isGoal k1 hk1 μ9 r12 (fun r15 b152 => ?_)
      refine f_X9_withOrWithout (μ9 k2 2) v8 r15 (fun r18 => ?_)
      refine ⟨_, fl_wpl_X3_makeGroups_90 (tms μ9 k2 2 r18) k1 hk1 k2 hk2 r12 v8 ?_ _ (0 : Int32) (tms μ9 k2 2 r18) (Nat.lt_succ_self _) (by first | decide | omega) Fr.rf⟩
      · intro μ32 hf153
        exact ih (v8 + (1 : Int32)) μ32 (lt_m c_lt (by omega)) (lt_p (by assumption) c_lt) (Fr.trans (Fr.st hF (by rw [show kd k2 = 5 from hk2] <;> rfl) (Or.inl (ne43 (K := 5) hk2 (by decide)))) (Fr.up (by decide) hf153))
set_option maxHeartbeats 2000000 in
theorem f_X3_makeGroups (k1 : Nat) (hk1 : kd k1 = 5) (k2 : Nat) (hk2 : kd k2 = 5) (μ : TMem)  {Q : TMem → Prop} (h : ∀ μ9 : TMem, Fr 2 μ μ9 → Q μ9) : wp_X3_makeGroups k1 k2 μ Q := by
  show wp_X6_fill 20 μ (-1 : Int32) (fun (μ1 : TMem) => wp_X1_partOf μ1 (0 : Int32) (fun (r2 : Int32) => wp_X6_put 20 μ1 r2 (0 : Int32) (fun (μ5 : TMem) => wp_X6_put 18 μ5 (0 : Int32) (0 : Int32) (fun (μ6 : TMem) => ∃ n6x, wpl_X3_makeGroups_45 k1 k2 Q n6x (0 : Int32) (tms (tms μ6 k2 1 (1 : Int32)) k2 2 (0 : Int32))))))
  refine f_X6_fill 20 rfl μ (-1 : Int32) (by decide) (fun μ1 hf154 => ?_)
  refine f_X1_partOf μ1 (0 : Int32) (fun r2 => ?_)
  refine f_X6_put 20 rfl μ1 r2 (0 : Int32) (Or.inl (by decide)) (fun μ5 hf155 => ?_)
  refine f_X6_put 18 rfl μ5 (0 : Int32) (0 : Int32) (Or.inl (by decide)) (fun μ6 hf156 => ?_)
  refine ⟨_, fl_wpl_X3_makeGroups_45 (tms (tms μ6 k2 1 (1 : Int32)) k2 2 (0 : Int32)) k1 hk1 k2 hk2 (fun μ9 f9 => h μ9 (Fr.trans (Fr.st (Fr.st (Fr.trans (Fr.trans (Fr.trans (Fr.rf) (Fr.up (by decide) hf154)) (Fr.up (by decide) hf155)) (Fr.up (by decide) hf156)) (by rw [show kd k2 = 5 from hk2] <;> rfl) (Or.inl (ne43 (K := 5) hk2 (by decide)))) (by rw [show kd k2 = 5 from hk2] <;> rfl) (Or.inl (ne43 (K := 5) hk2 (by decide)))) (Fr.up (by decide) f9))) _ (0 : Int32) (tms (tms μ6 k2 1 (1 : Int32)) k2 2 (0 : Int32)) (Nat.lt_succ_self _) (by first | decide | omega) Fr.rf⟩
