set_option maxHeartbeats 2000000 in
theorem f_X2_closeUp (a0 : Int32) (a1 : Int32) {Q : Int32 → Prop} (h : ∀ r : Int32, Q r) : wp_X2_closeUp a0 a1 Q := by
  show Q ((a0 &&& (((1 : Int32) <<< (a1 &&& 31)) - (1 : Int32))) ||| ((a0 >>> ((a1 + (1 : Int32)) &&& 31)) <<< (a1 &&& 31)))
  exact h _
set_option maxHeartbeats 2000000 in
theorem fl_wpl_X2_removeState_28 (μ0 : TMem) (k0 : Nat) (hk0 : kd k0 = 2) (v10 : Int32) (v11 : Int32) (v12 : Int32) {K58 : TMem → Prop} (hK58 : ∀ (u0 : TMem), Fr 0 μ0 u0 → K58 u0) : ∀ (n : Nat) (v9 : Int32) (μ13 : TMem), (((3 : Int32)).toInt - (v9).toInt).toNat < n → 0 ≤ (v9).toInt → Fr 0 μ0 μ13 → wpl_X2_removeState_28 k0 v10 v11 v12 K58 n v9 μ13 := by
  intro n
  induction n with
  | zero => intro v9 μ13 hm; exact absurd hm (Nat.not_lt_zero _)
  | succ n ih =>
    intro v9 μ13 hm hi hF
    show ((3 : Int32) ≤ v9 → (K58 μ13)) ∧ (¬ (3 : Int32) ≤ v9 → (wp_X7_at k0 μ13 v10 v9 (fun (r15 : Int32) => wp_X2_closeUp r15 v12 (fun (r18 : Int32) => wp_X7_put k0 μ13 v11 v9 r18 (fun (μ19 : TMem) => wpl_X2_removeState_28 k0 v10 v11 v12 K58 n (v9 + (1 : Int32)) μ19)))))
    refine ⟨fun c_ex => ?_, fun c_in => ?_⟩
    · exact hK58 μ13 hF
    have c_lt : ¬ ((3 : Int32)) ≤ v9 := c_in
    refine f_X7_at k0 (Or.inl hk0) μ13 v10 v9 (fun r15 => ?_)
    refine f_X2_closeUp r15 v12 (fun r18 => ?_)
    refine f_X7_put k0 (Or.inl hk0) μ13 v11 v9 r18 (fun μ19 hf244 => ?_)
    exact ih (v9 + (1 : Int32)) μ19 (lt_m c_lt (by omega)) (lt_p (by assumption) c_lt) (Fr.trans hF (Fr.up (by decide) hf244))
set_option maxHeartbeats 2000000 in
theorem fl_wpl_X2_removeState_2 (μ0 : TMem) (k0 : Nat) (hk0 : kd k0 = 2) (v3 : Int32) {K64 : TMem → Prop} (hK64 : ∀ (u0 : TMem), Fr 0 μ0 u0 → K64 u0) : ∀ (n : Nat) (v2 : Int32) (μ4 : TMem), ((((μ0 k0 1) - (1 : Int32))).toInt - (v2).toInt).toNat < n → 0 ≤ (v2).toInt → Fr 0 μ0 μ4 → wpl_X2_removeState_2 k0 v3 K64 n v2 μ4 := by
  intro n
  induction n with
  | zero => intro v2 μ4 hm; exact absurd hm (Nat.not_lt_zero _)
  | succ n ih =>
    intro v2 μ4 hm hi hF
    show (((μ4 k0 1) - (1 : Int32)) ≤ v2 → (K64 μ4)) ∧ (¬ ((μ4 k0 1) - (1 : Int32)) ≤ v2 → (∀ J6 : Int32 → Prop, (∀ (j7 : Int32), (∃ n7x, wpl_X2_removeState_28 k0 j7 v2 v3 (fun (μ21 : TMem) => wpl_X2_removeState_2 k0 v3 K64 n (v2 + (1 : Int32)) μ21) n7x (0 : Int32) μ4) → J6 j7) → ((v3 ≤ v2 → (J6 (v2 + (1 : Int32)))) ∧ (¬ v3 ≤ v2 → (J6 v2)))))
    refine ⟨fun c_ex => ?_, fun c_in => ?_⟩
    · exact hK64 μ4 hF
    have e_k0_1 : μ4 k0 1 = μ0 k0 1 := hF.1 k0 1 (by rw [show kd k0 = 2 from hk0] <;> rfl)
    have c_lt : ¬ (((μ0 k0 1) - (1 : Int32))) ≤ v2 := by
      rw [e_k0_1] at c_in
      exact c_in
    intro J6 hJ6
    refine ⟨fun c245 => ?_, fun c246 => ?_⟩
    · refine hJ6 (v2 + (1 : Int32)) ?_
      refine ⟨_, fl_wpl_X2_removeState_28 μ4 k0 hk0 (v2 + (1 : Int32)) v2 v3 ?_ _ (0 : Int32) μ4 (Nat.lt_succ_self _) (by first | decide | omega) Fr.rf⟩
      · intro μ21 hf247
        exact ih (v2 + (1 : Int32)) μ21 (lt_m c_lt (by omega)) (lt_p (by assumption) c_lt) (Fr.trans hF (Fr.up (by decide) hf247))
    · refine hJ6 v2 ?_
      refine ⟨_, fl_wpl_X2_removeState_28 μ4 k0 hk0 v2 v2 v3 ?_ _ (0 : Int32) μ4 (Nat.lt_succ_self _) (by first | decide | omega) Fr.rf⟩
      · intro μ21 hf248
        exact ih (v2 + (1 : Int32)) μ21 (lt_m c_lt (by omega)) (lt_p (by assumption) c_lt) (Fr.trans hF (Fr.up (by decide) hf248))
set_option maxHeartbeats 2000000 in
theorem f_X2_removeState (k0 : Nat) (hk0 : kd k0 = 2) (μ : TMem) (a1 : Int32) {Q : TMem → Prop} (h : ∀ μ9 : TMem, Fr 2 μ μ9 → Q μ9) : wp_X2_removeState k0 μ a1 Q := by
  show ∃ n0x, wpl_X2_removeState_2 k0 a1 (fun (μ24 : TMem) => wp_X2_closeUp (μ24 k0 3) a1 (fun (r25 : Int32) => wp_X2_closeUp ((tms μ24 k0 3 r25) k0 2) a1 (fun (r26 : Int32) => Q (tms (tms (tms μ24 k0 3 r25) k0 2 r26) k0 1 (((tms (tms μ24 k0 3 r25) k0 2 r26) k0 1) - (1 : Int32)))))) n0x (0 : Int32) μ
  refine ⟨_, fl_wpl_X2_removeState_2 μ k0 hk0 a1 ?_ _ (0 : Int32) μ (Nat.lt_succ_self _) (by first | decide | omega) Fr.rf⟩
  · intro μ24 hf249
    refine f_X2_closeUp (μ24 k0 3) a1 (fun r25 => ?_)
    refine f_X2_closeUp ((tms μ24 k0 3 r25) k0 2) a1 (fun r26 => ?_)
    exact h _ (Fr.st (Fr.st (Fr.st (Fr.trans (Fr.rf) (Fr.up (by decide) hf249)) (by rw [show kd k0 = 2 from hk0] <;> rfl) (Or.inl (ne43 (K := 2) hk0 (by decide)))) (by rw [show kd k0 = 2 from hk0] <;> rfl) (Or.inl (ne43 (K := 2) hk0 (by decide)))) (by rw [show kd k0 = 2 from hk0] <;> rfl) (Or.inl (ne43 (K := 2) hk0 (by decide))))
set_option maxHeartbeats 2000000 in
theorem fl_wpl_X2_countOneByOne_10 (k0 : Nat) (hk0 : kd k0 = 2) (μ : TMem) (v5 : Int32) (v6 : Int32) {Q : Int32 → Prop} (h : ∀ r : Int32, Q r) : ∀ (n : Nat) (v3 : Int32) (v4 : Int32), ((v5).toInt - (v3).toInt).toNat < n → 0 ≤ (v3).toInt → wpl_X2_countOneByOne_10 k0 μ v5 v6 Q n v3 v4 := by
  intro n
  induction n with
  | zero => intro v3 v4 hm; exact absurd hm (Nat.not_lt_zero _)
  | succ n ih =>
    intro v3 v4 hm hi
    show (v5 ≤ v3 → (Q v4)) ∧ (¬ v5 ≤ v3 → (wp_X2_isTaking k0 μ v6 v3 (fun (r8 : Int32) => (r8 = 0 → (wpl_X2_countOneByOne_10 k0 μ v5 v6 Q n (v3 + (1 : Int32)) v4)) ∧ (¬ r8 = 0 → (wpl_X2_countOneByOne_10 k0 μ v5 v6 Q n (v3 + (1 : Int32)) (v4 + (1 : Int32)))))))
    refine ⟨fun c_ex => ?_, fun c_in => ?_⟩
    · exact h _
    have c_lt : ¬ (v5) ≤ v3 := c_in
    refine f_X2_isTaking k0 hk0 μ v6 v3 (fun r8 b250 => ?_)
    refine ⟨fun c251 => ?_, fun c252 => ?_⟩
    · exact ih (v3 + (1 : Int32)) v4 (lt_m c_lt (by omega)) (lt_p (by assumption) c_lt)
    · exact ih (v3 + (1 : Int32)) (v4 + (1 : Int32)) (lt_m c_lt (by omega)) (lt_p (by assumption) c_lt)
set_option maxHeartbeats 2000000 in
theorem f_X2_countOneByOne (k0 : Nat) (hk0 : kd k0 = 2) (μ : TMem) (a1 : Int32) {Q : Int32 → Prop} (h : ∀ r : Int32, Q r) : wp_X2_countOneByOne k0 μ a1 Q := by
  show wp_X9_countCodes a1 (fun (r1 : Int32) => ∃ n1x, wpl_X2_countOneByOne_10 k0 μ r1 a1 Q n1x (0 : Int32) (0 : Int32))
  refine f_X9_countCodes a1 (fun r1 => ?_)
  refine ⟨_, fl_wpl_X2_countOneByOne_10 k0 hk0 μ r1 a1 h _ (0 : Int32) (0 : Int32) (Nat.lt_succ_self _) (by first | decide | omega)⟩
set_option maxHeartbeats 2000000 in
theorem f_X3_makeByTurning (k1 : Nat) (hk1 : kd k1 = 2) (k2 : Nat) (hk2 : kd k2 = 5) (μ : TMem)  {Q : Int32 → TMem → Prop} (h : ∀ (r : Int32) (μ9 : TMem), isB r → Fr 2 μ μ9 → Q r μ9) : wp_X3_makeByTurning k1 k2 μ Q := by
  show wp_X2_becomeRound 31 k1 μ (fun (μ1 : TMem) => wp_X3_makeOneWay 31 33 μ1 (fun (r3 : Int32) (μ2 : TMem) => (¬ r3 = 0 → (wp_X2_becomePlain 29 33 μ2 (fun (μ5 : TMem) => wp_X2_becomeRound 31 29 μ5 (fun (μ6 : TMem) => wp_X3_makeOneWay 31 k2 μ6 (fun (r8 : Int32) (μ7 : TMem) => isB r8 ∧ Q r8 μ7))))) ∧ (r3 = 0 → (Q (0 : Int32) μ2))))
  refine f_X2_becomeRound 31 rfl k1 hk1 μ (fun μ1 hf253 => ?_)
  refine f_X3_makeOneWay 31 rfl 33 rfl μ1 (fun r3 μ2 b254 hf255 => ?_)
  refine ⟨fun c256 => ?_, fun c257 => ?_⟩
  · refine f_X2_becomePlain 29 rfl 33 rfl μ2 (fun μ5 hf258 => ?_)
    refine f_X2_becomeRound 31 rfl 29 rfl μ5 (fun μ6 hf259 => ?_)
    refine f_X3_makeOneWay 31 rfl k2 hk2 μ6 (fun r8 μ7 b260 hf261 => ?_)
    refine ⟨(by first | assumption | exact Or.inl rfl | exact Or.inr rfl | exact isB_or (by assumption) (by first | assumption | exact Or.inl rfl | exact Or.inr rfl)), ?_⟩
    exact h _ _ (by first | assumption | exact Or.inl rfl | exact Or.inr rfl | exact isB_or (by assumption) (by first | assumption | exact Or.inl rfl | exact Or.inr rfl)) (Fr.trans (Fr.trans (Fr.trans (Fr.trans (Fr.trans (Fr.rf) (Fr.up (by decide) hf253)) (Fr.up (by decide) hf255)) (Fr.up (by decide) hf258)) (Fr.up (by decide) hf259)) (Fr.up (by decide) hf261))
  · exact h _ _ (by first | assumption | exact Or.inl rfl | exact Or.inr rfl | exact isB_or (by assumption) (by first | assumption | exact Or.inl rfl | exact Or.inr rfl)) (Fr.trans (Fr.trans (Fr.rf) (Fr.up (by decide) hf253)) (Fr.up (by decide) hf255))
set_option maxHeartbeats 2000000 in
theorem f_X3_makeBy (k2 : Nat) (hk2 : kd k2 = 2) (k3 : Nat) (hk3 : kd k3 = 5) (μ : TMem) (a1 : Int32) {Q : Int32 → TMem → Prop} (h : ∀ (r : Int32) (μ9 : TMem), isB r → Fr 2 μ μ9 → Q r μ9) : wp_X3_makeBy k2 k3 μ a1 Q := by
  show (¬ a1 = (3 : Int32) → ((¬ a1 = (2 : Int32) → (wp_X3_makeOneWay k2 33 μ (fun (r4 : Int32) (μ3 : TMem) => (¬ r4 = 0 → (∀ J6 : TMem → Prop, (∀ (μ7 : TMem), (wp_X3_makeGroups 33 k3 μ7 (fun (μ8 : TMem) => Q (1 : Int32) μ8)) → J6 μ7) → ((¬ a1 = (1 : Int32) → (wp_X1_findByParting 33 μ3 (fun (μ10 : TMem) => J6 μ10))) ∧ (a1 = (1 : Int32) → (wp_X1_findByPairs 33 μ3 (fun (μ11 : TMem) => J6 μ11)))))) ∧ (r4 = 0 → (Q (0 : Int32) μ3))))) ∧ (a1 = (2 : Int32) → (wp_X3_makeByTurning k2 k3 μ (fun (r13 : Int32) (μ12 : TMem) => isB r13 ∧ Q r13 μ12))))) ∧ (a1 = (3 : Int32) → (wp_X3_makeOneWay k2 k3 μ (fun (r16 : Int32) (μ15 : TMem) => isB r16 ∧ Q r16 μ15)))
  refine ⟨fun c262 => ?_, fun c263 => ?_⟩
  · refine ⟨fun c264 => ?_, fun c265 => ?_⟩
    · refine f_X3_makeOneWay k2 hk2 33 rfl μ (fun r4 μ3 b266 hf267 => ?_)
      refine ⟨fun c268 => ?_, fun c269 => ?_⟩
      · intro J6 hJ6
        refine ⟨fun c270 => ?_, fun c271 => ?_⟩
        · refine f_X1_findByParting 33 rfl μ3 (fun μ10 hf272 => ?_)
          refine hJ6 μ10 ?_
          refine f_X3_makeGroups 33 rfl k3 hk3 μ10 (fun μ8 hf273 => ?_)
          exact h _ _ (by first | assumption | exact Or.inl rfl | exact Or.inr rfl | exact isB_or (by assumption) (by first | assumption | exact Or.inl rfl | exact Or.inr rfl)) (Fr.trans (Fr.trans (Fr.trans (Fr.rf) (Fr.up (by decide) hf267)) (Fr.up (by decide) hf272)) (Fr.up (by decide) hf273))
        · refine f_X1_findByPairs 33 rfl μ3 (fun μ11 hf274 => ?_)
          refine hJ6 μ11 ?_
          refine f_X3_makeGroups 33 rfl k3 hk3 μ11 (fun μ8 hf275 => ?_)
          exact h _ _ (by first | assumption | exact Or.inl rfl | exact Or.inr rfl | exact isB_or (by assumption) (by first | assumption | exact Or.inl rfl | exact Or.inr rfl)) (Fr.trans (Fr.trans (Fr.trans (Fr.rf) (Fr.up (by decide) hf267)) (Fr.up (by decide) hf274)) (Fr.up (by decide) hf275))
      · exact h _ _ (by first | assumption | exact Or.inl rfl | exact Or.inr rfl | exact isB_or (by assumption) (by first | assumption | exact Or.inl rfl | exact Or.inr rfl)) (Fr.trans (Fr.rf) (Fr.up (by decide) hf267))
    · refine f_X3_makeByTurning k2 hk2 k3 hk3 μ (fun r13 μ12 b276 hf277 => ?_)
      refine ⟨(by first | assumption | exact Or.inl rfl | exact Or.inr rfl | exact isB_or (by assumption) (by first | assumption | exact Or.inl rfl | exact Or.inr rfl)), ?_⟩
      exact h _ _ (by first | assumption | exact Or.inl rfl | exact Or.inr rfl | exact isB_or (by assumption) (by first | assumption | exact Or.inl rfl | exact Or.inr rfl)) (Fr.trans (Fr.rf) (Fr.up (by decide) hf277))
  · refine f_X3_makeOneWay k2 hk2 k3 hk3 μ (fun r16 μ15 b278 hf279 => ?_)
    refine ⟨(by first | assumption | exact Or.inl rfl | exact Or.inr rfl | exact isB_or (by assumption) (by first | assumption | exact Or.inl rfl | exact Or.inr rfl)), ?_⟩
    exact h _ _ (by first | assumption | exact Or.inl rfl | exact Or.inr rfl | exact isB_or (by assumption) (by first | assumption | exact Or.inl rfl | exact Or.inr rfl)) (Fr.trans (Fr.rf) (Fr.up (by decide) hf279))
set_option maxHeartbeats 2000000 in
theorem f_X5_isSameAs (k0 : Nat) (hk0 : kd k0 = 5) (k1 : Nat) (hk1 : kd k1 = 5) (μ : TMem)  {Q : Int32 → Prop} (h : ∀ r : Int32, isB r → Q r) : wp_X5_isSameAs k0 k1 μ Q := by
  show wp_X7_isSameTable k0 k1 μ (fun (r1 : Int32) => isB r1 ∧ Q r1)
  refine f_X7_isSameTable k0 (Or.inr hk0) k1 (Or.inr hk1) μ (fun r1 b280 => ?_)
  refine ⟨(by first | assumption | exact Or.inl rfl | exact Or.inr rfl | exact isB_or (by assumption) (by first | assumption | exact Or.inl rfl | exact Or.inr rfl)), ?_⟩
  exact h _ (by first | assumption | exact Or.inl rfl | exact Or.inr rfl | exact isB_or (by assumption) (by first | assumption | exact Or.inl rfl | exact Or.inr rfl))
set_option maxHeartbeats 2000000 in
theorem fl_wpl_X5_ledInto_15 (k0 : Nat) (hk0 : kd k0 = 5) (μ : TMem) (v8 : Int32) (v10 : Int32) {K47 : Int32 → Prop} (hK47 : ∀ (u0 : Int32), K47 u0) : ∀ (n : Nat) (v7 : Int32) (v9 : Int32), (((3 : Int32)).toInt - (v7).toInt).toNat < n → 0 ≤ (v7).toInt → wpl_X5_ledInto_15 k0 μ v8 v10 K47 n v7 v9 := by
  intro n
  induction n with
  | zero => intro v7 v9 hm; exact absurd hm (Nat.not_lt_zero _)
  | succ n ih =>
    intro v7 v9 hm hi
    show ((3 : Int32) ≤ v7 → (K47 v9)) ∧ (¬ (3 : Int32) ≤ v7 → (wp_X7_at k0 μ v8 v7 (fun (r12 : Int32) => wp_X9_isIn v10 r12 (fun (r15 : Int32) => (r15 = 0 → (wpl_X5_ledInto_15 k0 μ v8 v10 K47 n (v7 + (1 : Int32)) v9)) ∧ (¬ r15 = 0 → (wpl_X5_ledInto_15 k0 μ v8 v10 K47 n (v7 + (1 : Int32)) (v9 ||| ((1 : Int32) <<< (v8 &&& 31)))))))))
    refine ⟨fun c_ex => ?_, fun c_in => ?_⟩
    · exact hK47 v9
    have c_lt : ¬ ((3 : Int32)) ≤ v7 := c_in
    refine f_X7_at k0 (Or.inr hk0) μ v8 v7 (fun r12 => ?_)
    refine f_X9_isIn v10 r12 (fun r15 b281 => ?_)
    refine ⟨fun c282 => ?_, fun c283 => ?_⟩
    · exact ih (v7 + (1 : Int32)) v9 (lt_m c_lt (by omega)) (lt_p (by assumption) c_lt)
    · exact ih (v7 + (1 : Int32)) (v9 ||| ((1 : Int32) <<< (v8 &&& 31))) (lt_m c_lt (by omega)) (lt_p (by assumption) c_lt)
set_option maxHeartbeats 2000000 in
theorem fl_wpl_X5_ledInto_4 (k0 : Nat) (hk0 : kd k0 = 5) (μ : TMem) (v4 : Int32) {Q : Int32 → Prop} (h : ∀ r : Int32, Q r) : ∀ (n : Nat) (v2 : Int32) (v3 : Int32), (((μ k0 1)).toInt - (v2).toInt).toNat < n → 0 ≤ (v2).toInt → wpl_X5_ledInto_4 k0 μ v4 Q n v2 v3 := by
  intro n
  induction n with
  | zero => intro v2 v3 hm; exact absurd hm (Nat.not_lt_zero _)
  | succ n ih =>
    intro v2 v3 hm hi
    show ((μ k0 1) ≤ v2 → (Q v3)) ∧ (¬ (μ k0 1) ≤ v2 → (∃ n5x, wpl_X5_ledInto_15 k0 μ v2 v4 (fun (u18 : Int32) => wpl_X5_ledInto_4 k0 μ v4 Q n (v2 + (1 : Int32)) u18) n5x (0 : Int32) v3))
    refine ⟨fun c_ex => ?_, fun c_in => ?_⟩
    · exact h _
    have c_lt : ¬ ((μ k0 1)) ≤ v2 := c_in
    refine ⟨_, fl_wpl_X5_ledInto_15 k0 hk0 μ v2 v4 ?_ _ (0 : Int32) v3 (Nat.lt_succ_self _) (by first | decide | omega)⟩
    · intro u18
      exact ih (v2 + (1 : Int32)) u18 (lt_m c_lt (by omega)) (lt_p (by assumption) c_lt)
set_option maxHeartbeats 2000000 in
theorem f_X5_ledInto (k0 : Nat) (hk0 : kd k0 = 5) (μ : TMem) (a1 : Int32) {Q : Int32 → Prop} (h : ∀ r : Int32, Q r) : wp_X5_ledInto k0 μ a1 Q := by
  show ∃ n0x, wpl_X5_ledInto_4 k0 μ a1 Q n0x (0 : Int32) (0 : Int32)
  refine ⟨_, fl_wpl_X5_ledInto_4 k0 hk0 μ a1 h _ (0 : Int32) (0 : Int32) (Nat.lt_succ_self _) (by first | decide | omega)⟩
set_option maxHeartbeats 2000000 in
theorem fl_wpl_X5_isTakingLongOnes_7 (k0 : Nat) (hk0 : kd k0 = 5) (μ : TMem) {Q : Int32 → Prop} (h : ∀ r : Int32, isB r → Q r) : ∀ (n : Nat) (v2 : Int32) (v3 : Int32), ((((2 : Int32) * (μ k0 1))).toInt - (v2).toInt).toNat < n → 0 ≤ (v2).toInt → wpl_X5_isTakingLongOnes_7 k0 μ Q n v2 v3 := by
  intro n
  induction n with
  | zero => intro v2 v3 hm; exact absurd hm (Nat.not_lt_zero _)
  | succ n ih =>
    intro v2 v3 hm hi
    show (((2 : Int32) * (μ k0 1)) ≤ v2 → (Q (0 : Int32))) ∧ (¬ ((2 : Int32) * (μ k0 1)) ≤ v2 → (wp_X5_ledInto k0 μ v3 (fun (r5 : Int32) => (v2 < (μ k0 1) → (wpl_X5_isTakingLongOnes_7 k0 μ Q n (v2 + (1 : Int32)) r5)) ∧ (¬ v2 < (μ k0 1) → (wp_X9_isIn r5 (0 : Int32) (fun (r9 : Int32) => (r9 = 0 → (wpl_X5_isTakingLongOnes_7 k0 μ Q n (v2 + (1 : Int32)) r5)) ∧ (¬ r9 = 0 → (Q (1 : Int32)))))))))
    refine ⟨fun c_ex => ?_, fun c_in => ?_⟩
    · exact h _ (by first | assumption | exact Or.inl rfl | exact Or.inr rfl | exact isB_or (by assumption) (by first | assumption | exact Or.inl rfl | exact Or.inr rfl))
    have c_lt : ¬ (((2 : Int32) * (μ k0 1))) ≤ v2 := c_in
    refine f_X5_ledInto k0 hk0 μ v3 (fun r5 => ?_)
    refine ⟨fun c284 => ?_, fun c285 => ?_⟩
    · exact ih (v2 + (1 : Int32)) r5 (lt_m c_lt (by omega)) (lt_p (by assumption) c_lt)
    · refine f_X9_isIn r5 (0 : Int32) (fun r9 b286 => ?_)
      refine ⟨fun c287 => ?_, fun c288 => ?_⟩
      · exact ih (v2 + (1 : Int32)) r5 (lt_m c_lt (by omega)) (lt_p (by assumption) c_lt)
      · exact h _ (by first | assumption | exact Or.inl rfl | exact Or.inr rfl | exact isB_or (by assumption) (by first | assumption | exact Or.inl rfl | exact Or.inr rfl))
set_option maxHeartbeats 2000000 in
theorem f_X5_isTakingLongOnes (k0 : Nat) (hk0 : kd k0 = 5) (μ : TMem)  {Q : Int32 → Prop} (h : ∀ r : Int32, isB r → Q r) : wp_X5_isTakingLongOnes k0 μ Q := by
  show ∃ n0x, wpl_X5_isTakingLongOnes_7 k0 μ Q n0x (1 : Int32) (μ k0 2)
  refine ⟨_, fl_wpl_X5_isTakingLongOnes_7 k0 hk0 μ h _ (1 : Int32) (μ k0 2) (Nat.lt_succ_self _) (by first | decide | omega)⟩
set_option maxHeartbeats 2000000 in
theorem f_X8_from (μ : TMem) (a1 : Int32) (a2 : Int32) {Q : Int32 → Prop} (h : ∀ r : Int32, Q r) : wp_X8_from μ a1 a2 Q := by
  show wp_X6_at 49 μ ((a2 * (32 : Int32)) + a1) (fun (r1 : Int32) => Q r1)
  refine f_X6_at 49 rfl μ ((a2 * (32 : Int32)) + a1) (fun r1 => ?_)
  exact h _
set_option maxHeartbeats 2000000 in
theorem fl_wpl_X8_sumOver_6 (k1 : Nat) (hk1 : kd k1 = 5) (μ : TMem) (v4 : Int32) (v5 : Int32) {Q : Int32 → Prop} (h : ∀ r : Int32, Q r) : ∀ (n : Nat) (v2 : Int32) (v3 : Int32), (((3 : Int32)).toInt - (v2).toInt).toNat < n → 0 ≤ (v2).toInt → wpl_X8_sumOver_6 k1 μ v4 v5 Q n v2 v3 := by
  intro n
  induction n with
  | zero => intro v2 v3 hm; exact absurd hm (Nat.not_lt_zero _)
  | succ n ih =>
    intro v2 v3 hm hi
    show ((3 : Int32) ≤ v2 → (Q v3)) ∧ (¬ (3 : Int32) ≤ v2 → (wp_X7_at k1 μ v4 v2 (fun (r7 : Int32) => wp_X8_from μ r7 v5 (fun (r10 : Int32) => wpl_X8_sumOver_6 k1 μ v4 v5 Q n (v2 + (1 : Int32)) (v3 + r10)))))
    refine ⟨fun c_ex => ?_, fun c_in => ?_⟩
    · exact h _
    have c_lt : ¬ ((3 : Int32)) ≤ v2 := c_in
    refine f_X7_at k1 (Or.inr hk1) μ v4 v2 (fun r7 => ?_)
    refine f_X8_from μ r7 v5 (fun r10 => ?_)
    exact ih (v2 + (1 : Int32)) (v3 + r10) (lt_m c_lt (by omega)) (lt_p (by assumption) c_lt)
set_option maxHeartbeats 2000000 in
theorem f_X8_sumOver (k1 : Nat) (hk1 : kd k1 = 5) (μ : TMem) (a2 : Int32) (a3 : Int32) {Q : Int32 → Prop} (h : ∀ r : Int32, Q r) : wp_X8_sumOver k1 μ a2 a3 Q := by
  show ∃ n0x, wpl_X8_sumOver_6 k1 μ a2 a3 Q n0x (0 : Int32) (0 : Int32)
  refine ⟨_, fl_wpl_X8_sumOver_6 k1 hk1 μ a2 a3 h _ (0 : Int32) (0 : Int32) (Nat.lt_succ_self _) (by first | decide | omega)⟩
set_option maxHeartbeats 2000000 in
theorem fl_wpl_X8_count_2 (μ0 : TMem) (k1 : Nat) (hk1 : kd k1 = 5) {K37 : TMem → Prop} (hK37 : ∀ (u0 : TMem), Fr 0 μ0 u0 → K37 u0) : ∀ (n : Nat) (v2 : Int32) (μ3 : TMem), (((μ0 k1 1)).toInt - (v2).toInt).toNat < n → 0 ≤ (v2).toInt → Fr 0 μ0 μ3 → wpl_X8_count_2 k1 K37 n v2 μ3 := by
  intro n
  induction n with
  | zero => intro v2 μ3 hm; exact absurd hm (Nat.not_lt_zero _)
  | succ n ih =>
    intro v2 μ3 hm hi hF
    show ((μ3 k1 1) ≤ v2 → (K37 μ3)) ∧ (¬ (μ3 k1 1) ≤ v2 → (wp_X5_isGoal k1 μ3 v2 (fun (r5 : Int32) => ∀ J8 : Int32 → Prop, (∀ (j9 : Int32), (wp_X6_put 49 μ3 v2 j9 (fun (μ10 : TMem) => wpl_X8_count_2 k1 K37 n (v2 + (1 : Int32)) μ10)) → J8 j9) → ((r5 = 0 → (J8 (0 : Int32))) ∧ (¬ r5 = 0 → (J8 (1 : Int32)))))))
    refine ⟨fun c_ex => ?_, fun c_in => ?_⟩
    · exact hK37 μ3 hF
    have e_k1_1 : μ3 k1 1 = μ0 k1 1 := hF.1 k1 1 (by rw [show kd k1 = 5 from hk1] <;> rfl)
    have c_lt : ¬ ((μ0 k1 1)) ≤ v2 := by
      rw [e_k1_1] at c_in
      exact c_in
    refine f_X5_isGoal k1 hk1 μ3 v2 (fun r5 b289 => ?_)
    intro J8 hJ8
    refine ⟨fun c290 => ?_, fun c291 => ?_⟩
    · refine hJ8 (0 : Int32) ?_
      refine f_X6_put 49 rfl μ3 v2 (0 : Int32) (Or.inl (by decide)) (fun μ10 hf292 => ?_)
      exact ih (v2 + (1 : Int32)) μ10 (lt_m c_lt (by omega)) (lt_p (by assumption) c_lt) (Fr.trans hF (Fr.up (by decide) hf292))
    · refine hJ8 (1 : Int32) ?_
      refine f_X6_put 49 rfl μ3 v2 (1 : Int32) (Or.inl (by decide)) (fun μ10 hf293 => ?_)
      exact ih (v2 + (1 : Int32)) μ10 (lt_m c_lt (by omega)) (lt_p (by assumption) c_lt) (Fr.trans hF (Fr.up (by decide) hf293))
set_option maxHeartbeats 2000000 in
theorem fl_wpl_X8_count_47 (μ0 : TMem) (k1 : Nat) (hk1 : kd k1 = 5) (v20 : Int32) {K83 : TMem → Prop} (hK83 : ∀ (u0 : TMem), Fr 0 μ0 u0 → K83 u0) : ∀ (n : Nat) (v19 : Int32) (μ21 : TMem), (((μ0 k1 1)).toInt - (v19).toInt).toNat < n → 0 ≤ (v19).toInt → Fr 0 μ0 μ21 → wpl_X8_count_47 k1 v20 K83 n v19 μ21 := by
  intro n
  induction n with
  | zero => intro v19 μ21 hm; exact absurd hm (Nat.not_lt_zero _)
  | succ n ih =>
    intro v19 μ21 hm hi hF
    show ((μ21 k1 1) ≤ v19 → (K83 μ21)) ∧ (¬ (μ21 k1 1) ≤ v19 → (wp_X8_sumOver k1 μ21 v19 (v20 - (1 : Int32)) (fun (r23 : Int32) => wp_X6_put 49 μ21 ((v20 * (32 : Int32)) + v19) r23 (fun (μ26 : TMem) => wpl_X8_count_47 k1 v20 K83 n (v19 + (1 : Int32)) μ26))))
    refine ⟨fun c_ex => ?_, fun c_in => ?_⟩
    · exact hK83 μ21 hF
    have e_k1_1 : μ21 k1 1 = μ0 k1 1 := hF.1 k1 1 (by rw [show kd k1 = 5 from hk1] <;> rfl)
    have c_lt : ¬ ((μ0 k1 1)) ≤ v19 := by
      rw [e_k1_1] at c_in
      exact c_in
    refine f_X8_sumOver k1 hk1 μ21 v19 (v20 - (1 : Int32)) (fun r23 => ?_)
    refine f_X6_put 49 rfl μ21 ((v20 * (32 : Int32)) + v19) r23 (Or.inl (by decide)) (fun μ26 hf294 => ?_)
    exact ih (v19 + (1 : Int32)) μ26 (lt_m c_lt (by omega)) (lt_p (by assumption) c_lt) (Fr.trans hF (Fr.up (by decide) hf294))
set_option maxHeartbeats 2000000 in
theorem fl_wpl_X8_count_39 (μ0 : TMem) (k1 : Nat) (hk1 : kd k1 = 5) {Q : TMem → Prop} (h : ∀ μ9 : TMem, Fr 0 μ0 μ9 → Q μ9) : ∀ (n : Nat) (v15 : Int32) (μ16 : TMem), (((12 : Int32)).toInt + 1 - (v15).toInt).toNat < n → 0 ≤ (v15).toInt → Fr 0 μ0 μ16 → wpl_X8_count_39 k1 Q n v15 μ16 := by
  intro n
  induction n with
  | zero => intro v15 μ16 hm; exact absurd hm (Nat.not_lt_zero _)
  | succ n ih =>
    intro v15 μ16 hm hi hF
    show ((12 : Int32) < v15 → (Q μ16)) ∧ (¬ (12 : Int32) < v15 → (∃ n17x, wpl_X8_count_47 k1 v15 (fun (μ28 : TMem) => wpl_X8_count_39 k1 Q n (v15 + (1 : Int32)) μ28) n17x (0 : Int32) μ16))
    refine ⟨fun c_ex => ?_, fun c_in => ?_⟩
    · exact h _ hF
    have c_lt : ¬ ((12 : Int32)) < v15 := c_in
    refine ⟨_, fl_wpl_X8_count_47 μ16 k1 hk1 v15 ?_ _ (0 : Int32) μ16 (Nat.lt_succ_self _) (by first | decide | omega) Fr.rf⟩
    · intro μ28 hf295
      exact ih (v15 + (1 : Int32)) μ28 (lt_ms c_lt (by decide) (by omega)) (lt_ps (by assumption) c_lt (by decide)) (Fr.trans hF (Fr.up (by decide) hf295))
set_option maxHeartbeats 2000000 in
theorem f_X8_count (k1 : Nat) (hk1 : kd k1 = 5) (μ : TMem)  {Q : TMem → Prop} (h : ∀ μ9 : TMem, Fr 0 μ μ9 → Q μ9) : wp_X8_count k1 μ Q := by
  show ∃ n0x, wpl_X8_count_2 k1 (fun (μ13 : TMem) => ∃ n13x, wpl_X8_count_39 k1 Q n13x (1 : Int32) μ13) n0x (0 : Int32) μ
  refine ⟨_, fl_wpl_X8_count_2 μ k1 hk1 ?_ _ (0 : Int32) μ (Nat.lt_succ_self _) (by first | decide | omega) Fr.rf⟩
  · intro μ13 hf296
    refine ⟨_, fl_wpl_X8_count_39 μ13 k1 hk1 (fun μ9 f9 => h μ9 (Fr.trans (Fr.trans (Fr.rf) (Fr.up (by decide) hf296)) (Fr.up (by decide) f9))) _ (1 : Int32) μ13 (Nat.lt_succ_self _) (by first | decide | omega) Fr.rf⟩
set_option maxHeartbeats 2000000 in
theorem f_X9_machineAt (μ : TMem) (a1 : Int32) {Q : Nat → TMem → Prop} {X : String → TMem → Prop} (h : ∀ (r : Nat) (μ9 : TMem), kd r = 2 → Fr 0 μ μ9 → Q r μ9) (hX : ∀ (E : String) (μ9 : TMem), E ∈ ex_I → Fr 0 μ μ9 → X E μ9) : wp_X9_machineAt μ a1 Q X := by
  show (a1 < 0 → (X "java/lang/IndexOutOfBoundsException" μ)) ∧ (¬ a1 < 0 → ((a1 < (4 : Int32) → (vp_in a1 4 ∧ (Q (2 + 2 * a1.toNatClampNeg) μ))) ∧ (¬ a1 < (4 : Int32) → (X "java/lang/IndexOutOfBoundsException" μ))))
  refine ⟨fun c297 => ?_, fun c298 => ?_⟩
  · exact hX _ _ (by decide) (Fr.rf)
  · refine ⟨fun c299 => ?_, fun c300 => ?_⟩
    · have hv301 : vp_in a1 4 := (by first | exact vp_a (by assumption) (by assumption) (tl_s _) | exact vp_b (by assumption) (by assumption) (tl_s _) | exact vp_a (n := 4) (by assumption) (by assumption) (by decide) | exact vp_b (n := 4) (by assumption) (by assumption) (by decide) | exact vp_c (by assumption) (by assumption))
      refine ⟨hv301, ?_⟩
      exact h _ _ (kd_ma _ (vp_lt (by assumption))) (Fr.rf)
    · exact hX _ _ (by decide) (Fr.rf)
set_option maxHeartbeats 2000000 in
theorem f_X9_checkRange (μ : TMem) (a0 : Int32) (a1 : Int32) (a2 : Int32) {Q : TMem → Prop} {X : String → TMem → Prop} (h : ∀ μ9 : TMem, Fr 0 μ μ9 → Q μ9) (hX : ∀ (E : String) (μ9 : TMem), E ∈ ex_A → Fr 0 μ μ9 → X E μ9) : wp_X9_checkRange μ a0 a1 a2 Q X := by
  show (a0 < a1 → (X "java/lang/IllegalArgumentException" μ)) ∧ (¬ a0 < a1 → ((a0 ≤ a2 → (Q μ)) ∧ (¬ a0 ≤ a2 → (X "java/lang/IllegalArgumentException" μ))))
  refine ⟨fun c302 => ?_, fun c303 => ?_⟩
  · exact hX _ _ (by decide) (Fr.rf)
  · refine ⟨fun c304 => ?_, fun c305 => ?_⟩
    · exact h _ (Fr.rf)
    · exact hX _ _ (by decide) (Fr.rf)
set_option maxHeartbeats 2000000 in
theorem f_X9_begin (μ : TMem) (a1 : Int32) (a2 : Int32) {Q : Int32 → TMem → Prop} {X : String → TMem → Prop} (h : ∀ (r : Int32) (μ9 : TMem), Fr 3 μ μ9 → Q r μ9) (hX : ∀ (E : String) (μ9 : TMem), E ∈ ex_IA → Fr 3 μ μ9 → X E μ9) : wp_X9_begin μ a1 a2 Q X := by
  show wp_X9_machineAt μ a1 (fun (k2 : Nat) (μ1 : TMem) => wp_X9_checkRange μ1 a2 (1 : Int32) (7 : Int32) (fun (μ3 : TMem) => wp_X2_countArrows k2 μ3 (fun (r4 : Int32) => wp_X2_clear k2 μ3 a2 (fun (μ7 : TMem) => wp_X9_acted μ7 r4 (fun (r9 : Int32) (μ8 : TMem) => Q r9 μ8)))) X) X
  refine f_X9_machineAt μ a1 (fun k2 μ1 hk306 hf307 => ?_) (fun E9 μ9 e9 f9 => hX E9 μ9 (ex_sub (by decide) e9) (Fr.trans (Fr.rf) (Fr.up (by decide) f9)))
  refine f_X9_checkRange μ1 a2 (1 : Int32) (7 : Int32) (fun μ3 hf308 => ?_) (fun E9 μ9 e9 f9 => hX E9 μ9 (ex_sub (by decide) e9) (Fr.trans (Fr.trans (Fr.rf) (Fr.up (by decide) hf307)) (Fr.up (by decide) f9)))
  refine f_X2_countArrows k2 hk306 μ3 (fun r4 => ?_)
  refine f_X2_clear k2 hk306 μ3 a2 (fun μ7 hf309 => ?_)
  refine f_X9_acted μ7 r4 (fun r9 μ8 hf310 => ?_)
  exact h _ _ (Fr.trans (Fr.trans (Fr.trans (Fr.trans (Fr.rf) (Fr.up (by decide) hf307)) (Fr.up (by decide) hf308)) (Fr.up (by decide) hf309)) (Fr.up (by decide) hf310))
set_option maxHeartbeats 2000000 in
theorem f_X9_checkState (k0 : Nat) (hk0 : kd k0 = 2) (μ : TMem) (a1 : Int32) {Q : TMem → Prop} {X : String → TMem → Prop} (h : ∀ μ9 : TMem, Fr 0 μ μ9 → Q μ9) (hX : ∀ (E : String) (μ9 : TMem), E ∈ ex_I → Fr 0 μ μ9 → X E μ9) : wp_X9_checkState k0 μ a1 Q X := by
  show (a1 < 0 → (X "java/lang/IndexOutOfBoundsException" μ)) ∧ (¬ a1 < 0 → ((a1 < (μ k0 1) → (Q μ)) ∧ (¬ a1 < (μ k0 1) → (X "java/lang/IndexOutOfBoundsException" μ))))
  refine ⟨fun c311 => ?_, fun c312 => ?_⟩
  · exact hX _ _ (by decide) (Fr.rf)
  · refine ⟨fun c313 => ?_, fun c314 => ?_⟩
    · exact h _ (Fr.rf)
    · exact hX _ _ (by decide) (Fr.rf)
set_option maxHeartbeats 2000000 in
theorem f_X9_checkSign (μ : TMem) (a0 : Int32) {Q : TMem → Prop} {X : String → TMem → Prop} (h : ∀ μ9 : TMem, Fr 0 μ μ9 → Q μ9) (hX : ∀ (E : String) (μ9 : TMem), E ∈ ex_A → Fr 0 μ μ9 → X E μ9) : wp_X9_checkSign μ a0 Q X := by
  show wp_X9_checkRange μ a0 (0 : Int32) (2 : Int32) (fun (μ1 : TMem) => Q μ1) X
  refine f_X9_checkRange μ a0 (0 : Int32) (2 : Int32) (fun μ1 hf315 => ?_) (fun E9 μ9 e9 f9 => hX E9 μ9 e9 (Fr.trans (Fr.rf) (Fr.up (by decide) f9)))
  exact h _ (Fr.trans (Fr.rf) (Fr.up (by decide) hf315))
set_option maxHeartbeats 2000000 in
theorem f_X9_arrow (μ : TMem) (a1 : Int32) (a2 : Int32) (a3 : Int32) (a4 : Int32) (a5 : Int32) {Q : Int32 → TMem → Prop} {X : String → TMem → Prop} (h : ∀ (r : Int32) (μ9 : TMem), Fr 3 μ μ9 → Q r μ9) (hX : ∀ (E : String) (μ9 : TMem), E ∈ ex_IA → Fr 3 μ μ9 → X E μ9) : wp_X9_arrow μ a1 a2 a3 a4 a5 Q X := by
  show wp_X9_machineAt μ a1 (fun (k2 : Nat) (μ1 : TMem) => wp_X9_checkState k2 μ1 a2 (fun (μ3 : TMem) => wp_X9_checkState k2 μ3 a4 (fun (μ4 : TMem) => wp_X9_checkSign μ4 a3 (fun (μ5 : TMem) => wp_X7_at k2 μ5 a2 a3 (fun (r6 : Int32) => wp_X9_withOrWithout r6 a4 a5 (fun (r9 : Int32) => wp_X7_put k2 μ5 a2 a3 r9 (fun (μ10 : TMem) => (r9 = r6 → (wp_X9_acted μ10 (0 : Int32) (fun (r13 : Int32) (μ12 : TMem) => Q r13 μ12))) ∧ (¬ r9 = r6 → (wp_X9_acted μ10 (1 : Int32) (fun (r15 : Int32) (μ14 : TMem) => Q r15 μ14))))))) X) X) X) X
  refine f_X9_machineAt μ a1 (fun k2 μ1 hk316 hf317 => ?_) (fun E9 μ9 e9 f9 => hX E9 μ9 (ex_sub (by decide) e9) (Fr.trans (Fr.rf) (Fr.up (by decide) f9)))
  refine f_X9_checkState k2 hk316 μ1 a2 (fun μ3 hf318 => ?_) (fun E9 μ9 e9 f9 => hX E9 μ9 (ex_sub (by decide) e9) (Fr.trans (Fr.trans (Fr.rf) (Fr.up (by decide) hf317)) (Fr.up (by decide) f9)))
  refine f_X9_checkState k2 hk316 μ3 a4 (fun μ4 hf319 => ?_) (fun E9 μ9 e9 f9 => hX E9 μ9 (ex_sub (by decide) e9) (Fr.trans (Fr.trans (Fr.trans (Fr.rf) (Fr.up (by decide) hf317)) (Fr.up (by decide) hf318)) (Fr.up (by decide) f9)))
  refine f_X9_checkSign μ4 a3 (fun μ5 hf320 => ?_) (fun E9 μ9 e9 f9 => hX E9 μ9 (ex_sub (by decide) e9) (Fr.trans (Fr.trans (Fr.trans (Fr.trans (Fr.rf) (Fr.up (by decide) hf317)) (Fr.up (by decide) hf318)) (Fr.up (by decide) hf319)) (Fr.up (by decide) f9)))
  refine f_X7_at k2 (Or.inl hk316) μ5 a2 a3 (fun r6 => ?_)
  refine f_X9_withOrWithout r6 a4 a5 (fun r9 => ?_)
  refine f_X7_put k2 (Or.inl hk316) μ5 a2 a3 r9 (fun μ10 hf321 => ?_)
  refine ⟨fun c322 => ?_, fun c323 => ?_⟩
  · refine f_X9_acted μ10 (0 : Int32) (fun r13 μ12 hf324 => ?_)
    exact h _ _ (Fr.trans (Fr.trans (Fr.trans (Fr.trans (Fr.trans (Fr.trans (Fr.rf) (Fr.up (by decide) hf317)) (Fr.up (by decide) hf318)) (Fr.up (by decide) hf319)) (Fr.up (by decide) hf320)) (Fr.up (by decide) hf321)) (Fr.up (by decide) hf324))
  · refine f_X9_acted μ10 (1 : Int32) (fun r15 μ14 hf325 => ?_)
    exact h _ _ (Fr.trans (Fr.trans (Fr.trans (Fr.trans (Fr.trans (Fr.trans (Fr.rf) (Fr.up (by decide) hf317)) (Fr.up (by decide) hf318)) (Fr.up (by decide) hf319)) (Fr.up (by decide) hf320)) (Fr.up (by decide) hf321)) (Fr.up (by decide) hf325))
set_option maxHeartbeats 2000000 in
theorem f_X9_lead (μ : TMem) (a1 : Int32) (a2 : Int32) (a3 : Int32) (a4 : Int32) {Q : Int32 → TMem → Prop} {X : String → TMem → Prop} (h : ∀ (r : Int32) (μ9 : TMem), Fr 3 μ μ9 → Q r μ9) (hX : ∀ (E : String) (μ9 : TMem), E ∈ ex_IA → Fr 3 μ μ9 → X E μ9) : wp_X9_lead μ a1 a2 a3 a4 Q X := by
  show wp_X9_machineAt μ a1 (fun (k2 : Nat) (μ1 : TMem) => wp_X9_checkState k2 μ1 a2 (fun (μ3 : TMem) => wp_X9_checkState k2 μ3 a4 (fun (μ4 : TMem) => wp_X9_checkSign μ4 a3 (fun (μ5 : TMem) => wp_X7_at k2 μ5 a2 a3 (fun (r6 : Int32) => wp_X7_put k2 μ5 a2 a3 ((1 : Int32) <<< (a4 &&& 31)) (fun (μ9 : TMem) => wp_J6_bitCount_0f7a4 r6 (fun (r10 : Int32) => wp_X9_acted μ9 r10 (fun (r12 : Int32) (μ11 : TMem) => Q r12 μ11))))) X) X) X) X
  refine f_X9_machineAt μ a1 (fun k2 μ1 hk326 hf327 => ?_) (fun E9 μ9 e9 f9 => hX E9 μ9 (ex_sub (by decide) e9) (Fr.trans (Fr.rf) (Fr.up (by decide) f9)))
  refine f_X9_checkState k2 hk326 μ1 a2 (fun μ3 hf328 => ?_) (fun E9 μ9 e9 f9 => hX E9 μ9 (ex_sub (by decide) e9) (Fr.trans (Fr.trans (Fr.rf) (Fr.up (by decide) hf327)) (Fr.up (by decide) f9)))
  refine f_X9_checkState k2 hk326 μ3 a4 (fun μ4 hf329 => ?_) (fun E9 μ9 e9 f9 => hX E9 μ9 (ex_sub (by decide) e9) (Fr.trans (Fr.trans (Fr.trans (Fr.rf) (Fr.up (by decide) hf327)) (Fr.up (by decide) hf328)) (Fr.up (by decide) f9)))
  refine f_X9_checkSign μ4 a3 (fun μ5 hf330 => ?_) (fun E9 μ9 e9 f9 => hX E9 μ9 (ex_sub (by decide) e9) (Fr.trans (Fr.trans (Fr.trans (Fr.trans (Fr.rf) (Fr.up (by decide) hf327)) (Fr.up (by decide) hf328)) (Fr.up (by decide) hf329)) (Fr.up (by decide) f9)))
  refine f_X7_at k2 (Or.inl hk326) μ5 a2 a3 (fun r6 => ?_)
  refine f_X7_put k2 (Or.inl hk326) μ5 a2 a3 ((1 : Int32) <<< (a4 &&& 31)) (fun μ9 hf331 => ?_)
  refine f_J6_bitCount_0f7a4 r6 (fun r10 => ?_)
  refine f_X9_acted μ9 r10 (fun r12 μ11 hf332 => ?_)
  exact h _ _ (Fr.trans (Fr.trans (Fr.trans (Fr.trans (Fr.trans (Fr.trans (Fr.rf) (Fr.up (by decide) hf327)) (Fr.up (by decide) hf328)) (Fr.up (by decide) hf329)) (Fr.up (by decide) hf330)) (Fr.up (by decide) hf331)) (Fr.up (by decide) hf332))
set_option maxHeartbeats 2000000 in
theorem f_X9_mark (μ : TMem) (a1 : Int32) (a2 : Int32) (a3 : Int32) (a4 : Int32) {Q : Int32 → TMem → Prop} {X : String → TMem → Prop} (h : ∀ (r : Int32) (μ9 : TMem), Fr 3 μ μ9 → Q r μ9) (hX : ∀ (E : String) (μ9 : TMem), E ∈ ex_I → Fr 3 μ μ9 → X E μ9) : wp_X9_mark μ a1 a2 a3 a4 Q X := by
  show wp_X9_machineAt μ a1 (fun (k2 : Nat) (μ1 : TMem) => wp_X9_checkState k2 μ1 a2 (fun (μ3 : TMem) => (a3 = 0 → (wp_X9_withOrWithout (μ3 k2 3) a2 a4 (fun (r5 : Int32) => (a3 = 0 → ((r5 = (μ3 k2 3) → (wp_X9_acted (tms μ3 k2 3 r5) (0 : Int32) (fun (r9 : Int32) (μ8 : TMem) => Q r9 μ8))) ∧ (¬ r5 = (μ3 k2 3) → (wp_X9_acted (tms μ3 k2 3 r5) (1 : Int32) (fun (r11 : Int32) (μ10 : TMem) => Q r11 μ10))))) ∧ (¬ a3 = 0 → ((r5 = (μ3 k2 3) → (wp_X9_acted (tms μ3 k2 2 r5) (0 : Int32) (fun (r14 : Int32) (μ13 : TMem) => Q r14 μ13))) ∧ (¬ r5 = (μ3 k2 3) → (wp_X9_acted (tms μ3 k2 2 r5) (1 : Int32) (fun (r16 : Int32) (μ15 : TMem) => Q r16 μ15)))))))) ∧ (¬ a3 = 0 → (wp_X9_withOrWithout (μ3 k2 2) a2 a4 (fun (r17 : Int32) => (a3 = 0 → ((r17 = (μ3 k2 2) → (wp_X9_acted (tms μ3 k2 3 r17) (0 : Int32) (fun (r21 : Int32) (μ20 : TMem) => Q r21 μ20))) ∧ (¬ r17 = (μ3 k2 2) → (wp_X9_acted (tms μ3 k2 3 r17) (1 : Int32) (fun (r23 : Int32) (μ22 : TMem) => Q r23 μ22))))) ∧ (¬ a3 = 0 → ((r17 = (μ3 k2 2) → (wp_X9_acted (tms μ3 k2 2 r17) (0 : Int32) (fun (r26 : Int32) (μ25 : TMem) => Q r26 μ25))) ∧ (¬ r17 = (μ3 k2 2) → (wp_X9_acted (tms μ3 k2 2 r17) (1 : Int32) (fun (r28 : Int32) (μ27 : TMem) => Q r28 μ27))))))))) X) X
  refine f_X9_machineAt μ a1 (fun k2 μ1 hk333 hf334 => ?_) (fun E9 μ9 e9 f9 => hX E9 μ9 e9 (Fr.trans (Fr.rf) (Fr.up (by decide) f9)))
  refine f_X9_checkState k2 hk333 μ1 a2 (fun μ3 hf335 => ?_) (fun E9 μ9 e9 f9 => hX E9 μ9 e9 (Fr.trans (Fr.trans (Fr.rf) (Fr.up (by decide) hf334)) (Fr.up (by decide) f9)))
  refine ⟨fun c336 => ?_, fun c337 => ?_⟩
  · refine f_X9_withOrWithout (μ3 k2 3) a2 a4 (fun r5 => ?_)
    refine ⟨fun c338 => ?_, fun c339 => ?_⟩
    · refine ⟨fun c340 => ?_, fun c341 => ?_⟩
      · refine f_X9_acted (tms μ3 k2 3 r5) (0 : Int32) (fun r9 μ8 hf342 => ?_)
        exact h _ _ (Fr.trans (Fr.st (Fr.trans (Fr.trans (Fr.rf) (Fr.up (by decide) hf334)) (Fr.up (by decide) hf335)) (by rw [show kd k2 = 2 from hk333] <;> rfl) (Or.inl (ne43 (K := 2) hk333 (by decide)))) (Fr.up (by decide) hf342))
      · refine f_X9_acted (tms μ3 k2 3 r5) (1 : Int32) (fun r11 μ10 hf343 => ?_)
        exact h _ _ (Fr.trans (Fr.st (Fr.trans (Fr.trans (Fr.rf) (Fr.up (by decide) hf334)) (Fr.up (by decide) hf335)) (by rw [show kd k2 = 2 from hk333] <;> rfl) (Or.inl (ne43 (K := 2) hk333 (by decide)))) (Fr.up (by decide) hf343))
    · refine ⟨fun c344 => ?_, fun c345 => ?_⟩
      · refine f_X9_acted (tms μ3 k2 2 r5) (0 : Int32) (fun r14 μ13 hf346 => ?_)
        exact h _ _ (Fr.trans (Fr.st (Fr.trans (Fr.trans (Fr.rf) (Fr.up (by decide) hf334)) (Fr.up (by decide) hf335)) (by rw [show kd k2 = 2 from hk333] <;> rfl) (Or.inl (ne43 (K := 2) hk333 (by decide)))) (Fr.up (by decide) hf346))
      · refine f_X9_acted (tms μ3 k2 2 r5) (1 : Int32) (fun r16 μ15 hf347 => ?_)
        exact h _ _ (Fr.trans (Fr.st (Fr.trans (Fr.trans (Fr.rf) (Fr.up (by decide) hf334)) (Fr.up (by decide) hf335)) (by rw [show kd k2 = 2 from hk333] <;> rfl) (Or.inl (ne43 (K := 2) hk333 (by decide)))) (Fr.up (by decide) hf347))
  · refine f_X9_withOrWithout (μ3 k2 2) a2 a4 (fun r17 => ?_)
    refine ⟨fun c348 => ?_, fun c349 => ?_⟩
    · refine ⟨fun c350 => ?_, fun c351 => ?_⟩
      · refine f_X9_acted (tms μ3 k2 3 r17) (0 : Int32) (fun r21 μ20 hf352 => ?_)
        exact h _ _ (Fr.trans (Fr.st (Fr.trans (Fr.trans (Fr.rf) (Fr.up (by decide) hf334)) (Fr.up (by decide) hf335)) (by rw [show kd k2 = 2 from hk333] <;> rfl) (Or.inl (ne43 (K := 2) hk333 (by decide)))) (Fr.up (by decide) hf352))
      · refine f_X9_acted (tms μ3 k2 3 r17) (1 : Int32) (fun r23 μ22 hf353 => ?_)
        exact h _ _ (Fr.trans (Fr.st (Fr.trans (Fr.trans (Fr.rf) (Fr.up (by decide) hf334)) (Fr.up (by decide) hf335)) (by rw [show kd k2 = 2 from hk333] <;> rfl) (Or.inl (ne43 (K := 2) hk333 (by decide)))) (Fr.up (by decide) hf353))
    · refine ⟨fun c354 => ?_, fun c355 => ?_⟩
      · refine f_X9_acted (tms μ3 k2 2 r17) (0 : Int32) (fun r26 μ25 hf356 => ?_)
        exact h _ _ (Fr.trans (Fr.st (Fr.trans (Fr.trans (Fr.rf) (Fr.up (by decide) hf334)) (Fr.up (by decide) hf335)) (by rw [show kd k2 = 2 from hk333] <;> rfl) (Or.inl (ne43 (K := 2) hk333 (by decide)))) (Fr.up (by decide) hf356))
      · refine f_X9_acted (tms μ3 k2 2 r17) (1 : Int32) (fun r28 μ27 hf357 => ?_)
        exact h _ _ (Fr.trans (Fr.st (Fr.trans (Fr.trans (Fr.rf) (Fr.up (by decide) hf334)) (Fr.up (by decide) hf335)) (by rw [show kd k2 = 2 from hk333] <;> rfl) (Or.inl (ne43 (K := 2) hk333 (by decide)))) (Fr.up (by decide) hf357))
set_option maxHeartbeats 2000000 in
theorem f_X9_sow (μ : TMem) (a1 : Int32) (a2 : Int32) (a3 : Int32) (a4 : Int32) {Q : Int32 → TMem → Prop} {X : String → TMem → Prop} (h : ∀ (r : Int32) (μ9 : TMem), Fr 3 μ μ9 → Q r μ9) (hX : ∀ (E : String) (μ9 : TMem), E ∈ ex_IA → Fr 3 μ μ9 → X E μ9) : wp_X9_sow μ a1 a2 a3 a4 Q X := by
  show wp_X9_machineAt μ a1 (fun (k2 : Nat) (μ1 : TMem) => wp_X9_checkRange μ1 a2 (0 : Int32) (65535 : Int32) (fun (μ3 : TMem) => wp_X9_checkRange μ3 a3 (1 : Int32) (7 : Int32) (fun (μ4 : TMem) => wp_X9_checkRange μ4 a4 (0 : Int32) (6 : Int32) (fun (μ5 : TMem) => wp_X0_restart μ5 a2 (fun (μ6 : TMem) => wp_X2_clear k2 μ6 a3 (fun (μ7 : TMem) => wp_X2_sowArrows k2 μ7 a4 (fun (μ8 : TMem) => wp_X2_sowGoals k2 μ8 (fun (μ9 : TMem) => wp_X2_countArrows k2 μ9 (fun (r10 : Int32) => wp_X9_acted μ9 r10 (fun (r14 : Int32) (μ13 : TMem) => Q r14 μ13))))))) X) X) X) X
  refine f_X9_machineAt μ a1 (fun k2 μ1 hk358 hf359 => ?_) (fun E9 μ9 e9 f9 => hX E9 μ9 (ex_sub (by decide) e9) (Fr.trans (Fr.rf) (Fr.up (by decide) f9)))
  refine f_X9_checkRange μ1 a2 (0 : Int32) (65535 : Int32) (fun μ3 hf360 => ?_) (fun E9 μ9 e9 f9 => hX E9 μ9 (ex_sub (by decide) e9) (Fr.trans (Fr.trans (Fr.rf) (Fr.up (by decide) hf359)) (Fr.up (by decide) f9)))
  refine f_X9_checkRange μ3 a3 (1 : Int32) (7 : Int32) (fun μ4 hf361 => ?_) (fun E9 μ9 e9 f9 => hX E9 μ9 (ex_sub (by decide) e9) (Fr.trans (Fr.trans (Fr.trans (Fr.rf) (Fr.up (by decide) hf359)) (Fr.up (by decide) hf360)) (Fr.up (by decide) f9)))
  refine f_X9_checkRange μ4 a4 (0 : Int32) (6 : Int32) (fun μ5 hf362 => ?_) (fun E9 μ9 e9 f9 => hX E9 μ9 (ex_sub (by decide) e9) (Fr.trans (Fr.trans (Fr.trans (Fr.trans (Fr.rf) (Fr.up (by decide) hf359)) (Fr.up (by decide) hf360)) (Fr.up (by decide) hf361)) (Fr.up (by decide) f9)))
  refine f_X0_restart μ5 a2 (fun μ6 hf363 => ?_)
  refine f_X2_clear k2 hk358 μ6 a3 (fun μ7 hf364 => ?_)
  refine f_X2_sowArrows k2 hk358 μ7 a4 (fun μ8 hf365 => ?_)
  refine f_X2_sowGoals k2 hk358 μ8 (fun μ9 hf366 => ?_)
  refine f_X2_countArrows k2 hk358 μ9 (fun r10 => ?_)
  refine f_X9_acted μ9 r10 (fun r14 μ13 hf367 => ?_)
  exact h _ _ (Fr.trans (Fr.trans (Fr.trans (Fr.trans (Fr.trans (Fr.trans (Fr.trans (Fr.trans (Fr.trans (Fr.rf) (Fr.up (by decide) hf359)) (Fr.up (by decide) hf360)) (Fr.up (by decide) hf361)) (Fr.up (by decide) hf362)) (Fr.up (by decide) hf363)) (Fr.up (by decide) hf364)) (Fr.up (by decide) hf365)) (Fr.up (by decide) hf366)) (Fr.up (by decide) hf367))
set_option maxHeartbeats 2000000 in
theorem f_X9_copy (μ : TMem) (a1 : Int32) (a2 : Int32) {Q : Int32 → TMem → Prop} {X : String → TMem → Prop} (h : ∀ (r : Int32) (μ9 : TMem), Fr 3 μ μ9 → Q r μ9) (hX : ∀ (E : String) (μ9 : TMem), E ∈ ex_I → Fr 3 μ μ9 → X E μ9) : wp_X9_copy μ a1 a2 Q X := by
  show wp_X9_machineAt μ a1 (fun (k2 : Nat) (μ1 : TMem) => wp_X9_machineAt μ1 a2 (fun (k4 : Nat) (μ3 : TMem) => wp_X2_isSameAs k4 k2 μ3 (fun (r5 : Int32) => wp_X2_become k4 k2 μ3 (fun (μ8 : TMem) => (r5 = 0 → (wp_X9_acted μ8 (1 : Int32) (fun (r11 : Int32) (μ10 : TMem) => Q r11 μ10))) ∧ (¬ r5 = 0 → (wp_X9_acted μ8 (0 : Int32) (fun (r13 : Int32) (μ12 : TMem) => Q r13 μ12)))))) X) X
  refine f_X9_machineAt μ a1 (fun k2 μ1 hk368 hf369 => ?_) (fun E9 μ9 e9 f9 => hX E9 μ9 e9 (Fr.trans (Fr.rf) (Fr.up (by decide) f9)))
  refine f_X9_machineAt μ1 a2 (fun k4 μ3 hk370 hf371 => ?_) (fun E9 μ9 e9 f9 => hX E9 μ9 e9 (Fr.trans (Fr.trans (Fr.rf) (Fr.up (by decide) hf369)) (Fr.up (by decide) f9)))
  refine f_X2_isSameAs k4 hk370 k2 hk368 μ3 (fun r5 b372 => ?_)
  refine f_X2_become k4 hk370 k2 hk368 μ3 (fun μ8 hf373 => ?_)
  refine ⟨fun c374 => ?_, fun c375 => ?_⟩
  · refine f_X9_acted μ8 (1 : Int32) (fun r11 μ10 hf376 => ?_)
    exact h _ _ (Fr.trans (Fr.trans (Fr.trans (Fr.trans (Fr.rf) (Fr.up (by decide) hf369)) (Fr.up (by decide) hf371)) (Fr.up (by decide) hf373)) (Fr.up (by decide) hf376))
  · refine f_X9_acted μ8 (0 : Int32) (fun r13 μ12 hf377 => ?_)
    exact h _ _ (Fr.trans (Fr.trans (Fr.trans (Fr.trans (Fr.rf) (Fr.up (by decide) hf369)) (Fr.up (by decide) hf371)) (Fr.up (by decide) hf373)) (Fr.up (by decide) hf377))
set_option maxHeartbeats 2000000 in
theorem f_X9_swap (μ : TMem) (a1 : Int32) (a2 : Int32) {Q : Int32 → TMem → Prop} {X : String → TMem → Prop} (h : ∀ (r : Int32) (μ9 : TMem), Fr 3 μ μ9 → Q r μ9) (hX : ∀ (E : String) (μ9 : TMem), E ∈ ex_I → Fr 3 μ μ9 → X E μ9) : wp_X9_swap μ a1 a2 Q X := by
  show wp_X9_machineAt μ a1 (fun (k2 : Nat) (μ1 : TMem) => wp_X9_machineAt μ1 a2 (fun (k4 : Nat) (μ3 : TMem) => wp_X2_isSameAs k2 k4 μ3 (fun (r5 : Int32) => wp_X2_become 10 k2 μ3 (fun (μ8 : TMem) => wp_X2_become k2 k4 μ8 (fun (μ9 : TMem) => wp_X2_become k4 10 μ9 (fun (μ10 : TMem) => (r5 = 0 → (wp_X9_acted μ10 (1 : Int32) (fun (r13 : Int32) (μ12 : TMem) => Q r13 μ12))) ∧ (¬ r5 = 0 → (wp_X9_acted μ10 (0 : Int32) (fun (r15 : Int32) (μ14 : TMem) => Q r15 μ14)))))))) X) X
  refine f_X9_machineAt μ a1 (fun k2 μ1 hk378 hf379 => ?_) (fun E9 μ9 e9 f9 => hX E9 μ9 e9 (Fr.trans (Fr.rf) (Fr.up (by decide) f9)))
  refine f_X9_machineAt μ1 a2 (fun k4 μ3 hk380 hf381 => ?_) (fun E9 μ9 e9 f9 => hX E9 μ9 e9 (Fr.trans (Fr.trans (Fr.rf) (Fr.up (by decide) hf379)) (Fr.up (by decide) f9)))
  refine f_X2_isSameAs k2 hk378 k4 hk380 μ3 (fun r5 b382 => ?_)
  refine f_X2_become 10 rfl k2 hk378 μ3 (fun μ8 hf383 => ?_)
  refine f_X2_become k2 hk378 k4 hk380 μ8 (fun μ9 hf384 => ?_)
  refine f_X2_become k4 hk380 10 rfl μ9 (fun μ10 hf385 => ?_)
  refine ⟨fun c386 => ?_, fun c387 => ?_⟩
  · refine f_X9_acted μ10 (1 : Int32) (fun r13 μ12 hf388 => ?_)
    exact h _ _ (Fr.trans (Fr.trans (Fr.trans (Fr.trans (Fr.trans (Fr.trans (Fr.rf) (Fr.up (by decide) hf379)) (Fr.up (by decide) hf381)) (Fr.up (by decide) hf383)) (Fr.up (by decide) hf384)) (Fr.up (by decide) hf385)) (Fr.up (by decide) hf388))
  · refine f_X9_acted μ10 (0 : Int32) (fun r15 μ14 hf389 => ?_)
    exact h _ _ (Fr.trans (Fr.trans (Fr.trans (Fr.trans (Fr.trans (Fr.trans (Fr.rf) (Fr.up (by decide) hf379)) (Fr.up (by decide) hf381)) (Fr.up (by decide) hf383)) (Fr.up (by decide) hf384)) (Fr.up (by decide) hf385)) (Fr.up (by decide) hf389))
set_option maxHeartbeats 2000000 in
theorem f_X9_turn (μ : TMem) (a1 : Int32) {Q : Int32 → TMem → Prop} {X : String → TMem → Prop} (h : ∀ (r : Int32) (μ9 : TMem), Fr 3 μ μ9 → Q r μ9) (hX : ∀ (E : String) (μ9 : TMem), E ∈ ex_I → Fr 3 μ μ9 → X E μ9) : wp_X9_turn μ a1 Q X := by
  show wp_X9_machineAt μ a1 (fun (k2 : Nat) (μ1 : TMem) => wp_X2_become 10 k2 μ1 (fun (μ3 : TMem) => wp_X2_becomeRound k2 10 μ3 (fun (μ4 : TMem) => wp_X2_countArrows k2 μ4 (fun (r5 : Int32) => wp_X9_acted μ4 r5 (fun (r9 : Int32) (μ8 : TMem) => Q r9 μ8))))) X
  refine f_X9_machineAt μ a1 (fun k2 μ1 hk390 hf391 => ?_) (fun E9 μ9 e9 f9 => hX E9 μ9 e9 (Fr.trans (Fr.rf) (Fr.up (by decide) f9)))
  refine f_X2_become 10 rfl k2 hk390 μ1 (fun μ3 hf392 => ?_)
  refine f_X2_becomeRound k2 hk390 10 rfl μ3 (fun μ4 hf393 => ?_)
  refine f_X2_countArrows k2 hk390 μ4 (fun r5 => ?_)
  refine f_X9_acted μ4 r5 (fun r9 μ8 hf394 => ?_)
  exact h _ _ (Fr.trans (Fr.trans (Fr.trans (Fr.trans (Fr.rf) (Fr.up (by decide) hf391)) (Fr.up (by decide) hf392)) (Fr.up (by decide) hf393)) (Fr.up (by decide) hf394))
set_option maxHeartbeats 2000000 in
theorem f_X9_other (μ : TMem) (a1 : Int32) {Q : Int32 → TMem → Prop} {X : String → TMem → Prop} (h : ∀ (r : Int32) (μ9 : TMem), Fr 3 μ μ9 → Q r μ9) (hX : ∀ (E : String) (μ9 : TMem), E ∈ ex_I → Fr 3 μ μ9 → X E μ9) : wp_X9_other μ a1 Q X := by
  show wp_X9_machineAt μ a1 (fun (k2 : Nat) (μ1 : TMem) => wp_X2_isPlain k2 μ1 (fun (r3 : Int32) => (¬ r3 = 0 → (wp_X2_allStates k2 μ1 (fun (r7 : Int32) => wp_J6_bitCount_0f7a4 ((tms μ1 k2 2 (r7 &&& ((μ1 k2 2) ^^^ (-1 : Int32)))) k2 2) (fun (r10 : Int32) => wp_X9_acted (tms μ1 k2 2 (r7 &&& ((μ1 k2 2) ^^^ (-1 : Int32)))) r10 (fun (r12 : Int32) (μ11 : TMem) => Q r12 μ11))))) ∧ (r3 = 0 → (wp_X9_refuse μ1 (fun (r14 : Int32) (μ13 : TMem) => Q r14 μ13))))) X
  refine f_X9_machineAt μ a1 (fun k2 μ1 hk395 hf396 => ?_) (fun E9 μ9 e9 f9 => hX E9 μ9 e9 (Fr.trans (Fr.rf) (Fr.up (by decide) f9)))
  refine f_X2_isPlain k2 hk395 μ1 (fun r3 b397 => ?_)
  refine ⟨fun c398 => ?_, fun c399 => ?_⟩
  · refine f_X2_allStates k2 hk395 μ1 (fun r7 => ?_)
    refine f_J6_bitCount_0f7a4 ((tms μ1 k2 2 (r7 &&& ((μ1 k2 2) ^^^ (-1 : Int32)))) k2 2) (fun r10 => ?_)
    refine f_X9_acted (tms μ1 k2 2 (r7 &&& ((μ1 k2 2) ^^^ (-1 : Int32)))) r10 (fun r12 μ11 hf400 => ?_)
    exact h _ _ (Fr.trans (Fr.st (Fr.trans (Fr.rf) (Fr.up (by decide) hf396)) (by rw [show kd k2 = 2 from hk395] <;> rfl) (Or.inl (ne43 (K := 2) hk395 (by decide)))) (Fr.up (by decide) hf400))
  · refine f_X9_refuse μ1 (fun r14 μ13 hf401 => ?_)
    exact h _ _ (Fr.trans (Fr.trans (Fr.rf) (Fr.up (by decide) hf396)) (Fr.up (by decide) hf401))
set_option maxHeartbeats 2000000 in
theorem f_X9_grow (μ : TMem) (a1 : Int32) {Q : Int32 → TMem → Prop} {X : String → TMem → Prop} (h : ∀ (r : Int32) (μ9 : TMem), Fr 3 μ μ9 → Q r μ9) (hX : ∀ (E : String) (μ9 : TMem), E ∈ ex_I → Fr 3 μ μ9 → X E μ9) : wp_X9_grow μ a1 Q X := by
  show wp_X9_machineAt μ a1 (fun (k2 : Nat) (μ1 : TMem) => ((μ1 k2 1) < (7 : Int32) → (wp_X2_addState k2 μ1 (fun (μ4 : TMem) => wp_X9_acted μ4 ((μ4 k2 1) - (1 : Int32)) (fun (r6 : Int32) (μ5 : TMem) => Q r6 μ5)))) ∧ (¬ (μ1 k2 1) < (7 : Int32) → (wp_X9_refuse μ1 (fun (r8 : Int32) (μ7 : TMem) => Q r8 μ7)))) X
  refine f_X9_machineAt μ a1 (fun k2 μ1 hk402 hf403 => ?_) (fun E9 μ9 e9 f9 => hX E9 μ9 e9 (Fr.trans (Fr.rf) (Fr.up (by decide) f9)))
  refine ⟨fun c404 => ?_, fun c405 => ?_⟩
  · refine f_X2_addState k2 hk402 μ1 (fun μ4 hf406 => ?_)
    refine f_X9_acted μ4 ((μ4 k2 1) - (1 : Int32)) (fun r6 μ5 hf407 => ?_)
    exact h _ _ (Fr.trans (Fr.trans (Fr.trans (Fr.rf) (Fr.up (by decide) hf403)) (Fr.up (by decide) hf406)) (Fr.up (by decide) hf407))
  · refine f_X9_refuse μ1 (fun r8 μ7 hf408 => ?_)
    exact h _ _ (Fr.trans (Fr.trans (Fr.rf) (Fr.up (by decide) hf403)) (Fr.up (by decide) hf408))
set_option maxHeartbeats 2000000 in
theorem f_X9_drop (μ : TMem) (a1 : Int32) (a2 : Int32) {Q : Int32 → TMem → Prop} {X : String → TMem → Prop} (h : ∀ (r : Int32) (μ9 : TMem), Fr 3 μ μ9 → Q r μ9) (hX : ∀ (E : String) (μ9 : TMem), E ∈ ex_I → Fr 3 μ μ9 → X E μ9) : wp_X9_drop μ a1 a2 Q X := by
  show wp_X9_machineAt μ a1 (fun (k2 : Nat) (μ1 : TMem) => wp_X9_checkState k2 μ1 a2 (fun (μ3 : TMem) => (¬ (μ3 k2 1) = (1 : Int32) → (wp_X2_countArrows k2 μ3 (fun (r5 : Int32) => wp_X2_removeState k2 μ3 a2 (fun (μ8 : TMem) => wp_X2_countArrows k2 μ8 (fun (r9 : Int32) => wp_X9_acted μ8 (r5 - r9) (fun (r13 : Int32) (μ12 : TMem) => Q r13 μ12)))))) ∧ ((μ3 k2 1) = (1 : Int32) → (wp_X9_refuse μ3 (fun (r15 : Int32) (μ14 : TMem) => Q r15 μ14)))) X) X
  refine f_X9_machineAt μ a1 (fun k2 μ1 hk409 hf410 => ?_) (fun E9 μ9 e9 f9 => hX E9 μ9 e9 (Fr.trans (Fr.rf) (Fr.up (by decide) f9)))
  refine f_X9_checkState k2 hk409 μ1 a2 (fun μ3 hf411 => ?_) (fun E9 μ9 e9 f9 => hX E9 μ9 e9 (Fr.trans (Fr.trans (Fr.rf) (Fr.up (by decide) hf410)) (Fr.up (by decide) f9)))
  refine ⟨fun c412 => ?_, fun c413 => ?_⟩
  · refine f_X2_countArrows k2 hk409 μ3 (fun r5 => ?_)
    refine f_X2_removeState k2 hk409 μ3 a2 (fun μ8 hf414 => ?_)
    refine f_X2_countArrows k2 hk409 μ8 (fun r9 => ?_)
    refine f_X9_acted μ8 (r5 - r9) (fun r13 μ12 hf415 => ?_)
    exact h _ _ (Fr.trans (Fr.trans (Fr.trans (Fr.trans (Fr.rf) (Fr.up (by decide) hf410)) (Fr.up (by decide) hf411)) (Fr.up (by decide) hf414)) (Fr.up (by decide) hf415))
  · refine f_X9_refuse μ3 (fun r15 μ14 hf416 => ?_)
    exact h _ _ (Fr.trans (Fr.trans (Fr.trans (Fr.rf) (Fr.up (by decide) hf410)) (Fr.up (by decide) hf411)) (Fr.up (by decide) hf416))
set_option maxHeartbeats 2000000 in
theorem f_X9_make (μ : TMem) (a1 : Int32) (a2 : Int32) (a3 : Int32) {Q : Int32 → TMem → Prop} {X : String → TMem → Prop} (h : ∀ (r : Int32) (μ9 : TMem), Fr 3 μ μ9 → Q r μ9) (hX : ∀ (E : String) (μ9 : TMem), E ∈ ex_I → Fr 3 μ μ9 → X E μ9) : wp_X9_make μ a1 a2 a3 Q X := by
  show wp_X9_machineAt μ a1 (fun (k2 : Nat) (μ1 : TMem) => wp_X9_machineAt μ1 a3 (fun (k4 : Nat) (μ3 : TMem) => (a2 = 0 → (wp_X3_makeBy k2 57 μ3 (3 : Int32) (fun (r7 : Int32) (μ6 : TMem) => (¬ r7 = 0 → (wp_X9_becomeMade k4 μ6 (fun (r10 : Int32) (μ9 : TMem) => Q r10 μ9))) ∧ (r7 = 0 → (wp_X9_refuse μ6 (fun (r12 : Int32) (μ11 : TMem) => Q r12 μ11)))))) ∧ (¬ a2 = 0 → (wp_X3_makeBy k2 57 μ3 (0 : Int32) (fun (r14 : Int32) (μ13 : TMem) => (¬ r14 = 0 → (wp_X9_becomeMade k4 μ13 (fun (r17 : Int32) (μ16 : TMem) => Q r17 μ16))) ∧ (r14 = 0 → (wp_X9_refuse μ13 (fun (r19 : Int32) (μ18 : TMem) => Q r19 μ18))))))) X) X
  refine f_X9_machineAt μ a1 (fun k2 μ1 hk417 hf418 => ?_) (fun E9 μ9 e9 f9 => hX E9 μ9 e9 (Fr.trans (Fr.rf) (Fr.up (by decide) f9)))
  refine f_X9_machineAt μ1 a3 (fun k4 μ3 hk419 hf420 => ?_) (fun E9 μ9 e9 f9 => hX E9 μ9 e9 (Fr.trans (Fr.trans (Fr.rf) (Fr.up (by decide) hf418)) (Fr.up (by decide) f9)))
  refine ⟨fun c421 => ?_, fun c422 => ?_⟩
  · refine f_X3_makeBy k2 hk417 57 rfl μ3 (3 : Int32) (fun r7 μ6 b423 hf424 => ?_)
    refine ⟨fun c425 => ?_, fun c426 => ?_⟩
    · refine f_X9_becomeMade k4 hk419 μ6 (fun r10 μ9 hf427 => ?_)
      exact h _ _ (Fr.trans (Fr.trans (Fr.trans (Fr.trans (Fr.rf) (Fr.up (by decide) hf418)) (Fr.up (by decide) hf420)) (Fr.up (by decide) hf424)) (Fr.up (by decide) hf427))
    · refine f_X9_refuse μ6 (fun r12 μ11 hf428 => ?_)
      exact h _ _ (Fr.trans (Fr.trans (Fr.trans (Fr.trans (Fr.rf) (Fr.up (by decide) hf418)) (Fr.up (by decide) hf420)) (Fr.up (by decide) hf424)) (Fr.up (by decide) hf428))
  · refine f_X3_makeBy k2 hk417 57 rfl μ3 (0 : Int32) (fun r14 μ13 b429 hf430 => ?_)
    refine ⟨fun c431 => ?_, fun c432 => ?_⟩
    · refine f_X9_becomeMade k4 hk419 μ13 (fun r17 μ16 hf433 => ?_)
      exact h _ _ (Fr.trans (Fr.trans (Fr.trans (Fr.trans (Fr.rf) (Fr.up (by decide) hf418)) (Fr.up (by decide) hf420)) (Fr.up (by decide) hf430)) (Fr.up (by decide) hf433))
    · refine f_X9_refuse μ13 (fun r19 μ18 hf434 => ?_)
      exact h _ _ (Fr.trans (Fr.trans (Fr.trans (Fr.trans (Fr.rf) (Fr.up (by decide) hf418)) (Fr.up (by decide) hf420)) (Fr.up (by decide) hf430)) (Fr.up (by decide) hf434))
set_option maxHeartbeats 2000000 in
theorem f_X9_combine (μ : TMem) (a1 : Int32) (a2 : Int32) (a3 : Int32) (a4 : Int32) {Q : Int32 → TMem → Prop} {X : String → TMem → Prop} (h : ∀ (r : Int32) (μ9 : TMem), Fr 3 μ μ9 → Q r μ9) (hX : ∀ (E : String) (μ9 : TMem), E ∈ ex_IA → Fr 3 μ μ9 → X E μ9) : wp_X9_combine μ a1 a2 a3 a4 Q X := by
  show wp_X9_machineAt μ a1 (fun (k2 : Nat) (μ1 : TMem) => wp_X9_machineAt μ1 a2 (fun (k4 : Nat) (μ3 : TMem) => wp_X9_machineAt μ3 a4 (fun (k6 : Nat) (μ5 : TMem) => wp_X9_checkRange μ5 a3 (0 : Int32) (3 : Int32) (fun (μ7 : TMem) => wp_X9_putTogether k2 k4 μ7 a3 (fun (r9 : Int32) (μ8 : TMem) => (¬ r9 = 0 → (wp_X9_becomeMade k6 μ8 (fun (r12 : Int32) (μ11 : TMem) => Q r12 μ11))) ∧ (r9 = 0 → (wp_X9_refuse μ8 (fun (r14 : Int32) (μ13 : TMem) => Q r14 μ13))))) X) X) X) X
  refine f_X9_machineAt μ a1 (fun k2 μ1 hk435 hf436 => ?_) (fun E9 μ9 e9 f9 => hX E9 μ9 (ex_sub (by decide) e9) (Fr.trans (Fr.rf) (Fr.up (by decide) f9)))
  refine f_X9_machineAt μ1 a2 (fun k4 μ3 hk437 hf438 => ?_) (fun E9 μ9 e9 f9 => hX E9 μ9 (ex_sub (by decide) e9) (Fr.trans (Fr.trans (Fr.rf) (Fr.up (by decide) hf436)) (Fr.up (by decide) f9)))
  refine f_X9_machineAt μ3 a4 (fun k6 μ5 hk439 hf440 => ?_) (fun E9 μ9 e9 f9 => hX E9 μ9 (ex_sub (by decide) e9) (Fr.trans (Fr.trans (Fr.trans (Fr.rf) (Fr.up (by decide) hf436)) (Fr.up (by decide) hf438)) (Fr.up (by decide) f9)))
  refine f_X9_checkRange μ5 a3 (0 : Int32) (3 : Int32) (fun μ7 hf441 => ?_) (fun E9 μ9 e9 f9 => hX E9 μ9 (ex_sub (by decide) e9) (Fr.trans (Fr.trans (Fr.trans (Fr.trans (Fr.rf) (Fr.up (by decide) hf436)) (Fr.up (by decide) hf438)) (Fr.up (by decide) hf440)) (Fr.up (by decide) f9)))
  refine f_X9_putTogether k2 hk435 k4 hk437 μ7 a3 (fun r9 μ8 b442 hf443 => ?_)
  refine ⟨fun c444 => ?_, fun c445 => ?_⟩
  · refine f_X9_becomeMade k6 hk439 μ8 (fun r12 μ11 hf446 => ?_)
    exact h _ _ (Fr.trans (Fr.trans (Fr.trans (Fr.trans (Fr.trans (Fr.trans (Fr.rf) (Fr.up (by decide) hf436)) (Fr.up (by decide) hf438)) (Fr.up (by decide) hf440)) (Fr.up (by decide) hf441)) (Fr.up (by decide) hf443)) (Fr.up (by decide) hf446))
  · refine f_X9_refuse μ8 (fun r14 μ13 hf447 => ?_)
    exact h _ _ (Fr.trans (Fr.trans (Fr.trans (Fr.trans (Fr.trans (Fr.trans (Fr.rf) (Fr.up (by decide) hf436)) (Fr.up (by decide) hf438)) (Fr.up (by decide) hf440)) (Fr.up (by decide) hf441)) (Fr.up (by decide) hf443)) (Fr.up (by decide) hf447))
set_option maxHeartbeats 2000000 in
theorem f_X9_tell (μ : TMem) (a1 : Int32) (a2 : Int32) {Q : Int32 → TMem → Prop} {X : String → TMem → Prop} (h : ∀ (r : Int32) (μ9 : TMem), Fr 0 μ μ9 → Q r μ9) (hX : ∀ (E : String) (μ9 : TMem), E ∈ ex_IA → Fr 0 μ μ9 → X E μ9) : wp_X9_tell μ a1 a2 Q X := by
  show wp_X9_machineAt μ a1 (fun (k2 : Nat) (μ1 : TMem) => wp_X9_checkRange μ1 a2 (0 : Int32) (4 : Int32) (fun (μ3 : TMem) => (a2 = (0 : Int32) → (Q (μ3 k2 1) μ3)) ∧ (¬ a2 = (0 : Int32) → (a2 = (1 : Int32) → (wp_X2_countArrows k2 μ3 (fun (r6 : Int32) => Q r6 μ3))) ∧ (¬ a2 = (1 : Int32) → (a2 = (2 : Int32) → (Q (μ3 k2 3) μ3)) ∧ (¬ a2 = (2 : Int32) → (a2 = (3 : Int32) → (Q (μ3 k2 2) μ3)) ∧ (¬ a2 = (3 : Int32) → (wp_X2_isPlain k2 μ3 (fun (r12 : Int32) => (r12 = 0 → (Q (0 : Int32) μ3)) ∧ (¬ r12 = 0 → (Q (1 : Int32) μ3))))))))) X) X
  refine f_X9_machineAt μ a1 (fun k2 μ1 hk448 hf449 => ?_) (fun E9 μ9 e9 f9 => hX E9 μ9 (ex_sub (by decide) e9) (Fr.trans (Fr.rf) (Fr.up (by decide) f9)))
  refine f_X9_checkRange μ1 a2 (0 : Int32) (4 : Int32) (fun μ3 hf450 => ?_) (fun E9 μ9 e9 f9 => hX E9 μ9 (ex_sub (by decide) e9) (Fr.trans (Fr.trans (Fr.rf) (Fr.up (by decide) hf449)) (Fr.up (by decide) f9)))
  refine ⟨fun c451 => ?_, fun c452 => ?_⟩
  · exact h _ _ (Fr.trans (Fr.trans (Fr.rf) (Fr.up (by decide) hf449)) (Fr.up (by decide) hf450))
  · refine ⟨fun c453 => ?_, fun c454 => ?_⟩
    · refine f_X2_countArrows k2 hk448 μ3 (fun r6 => ?_)
      exact h _ _ (Fr.trans (Fr.trans (Fr.rf) (Fr.up (by decide) hf449)) (Fr.up (by decide) hf450))
    · refine ⟨fun c455 => ?_, fun c456 => ?_⟩
      · exact h _ _ (Fr.trans (Fr.trans (Fr.rf) (Fr.up (by decide) hf449)) (Fr.up (by decide) hf450))
      · refine ⟨fun c457 => ?_, fun c458 => ?_⟩
        · exact h _ _ (Fr.trans (Fr.trans (Fr.rf) (Fr.up (by decide) hf449)) (Fr.up (by decide) hf450))
        · refine f_X2_isPlain k2 hk448 μ3 (fun r12 b459 => ?_)
          refine ⟨fun c460 => ?_, fun c461 => ?_⟩
          · exact h _ _ (Fr.trans (Fr.trans (Fr.rf) (Fr.up (by decide) hf449)) (Fr.up (by decide) hf450))
          · exact h _ _ (Fr.trans (Fr.trans (Fr.rf) (Fr.up (by decide) hf449)) (Fr.up (by decide) hf450))
set_option maxHeartbeats 2000000 in
theorem f_X9_arrows (μ : TMem) (a1 : Int32) (a2 : Int32) (a3 : Int32) {Q : Int32 → TMem → Prop} {X : String → TMem → Prop} (h : ∀ (r : Int32) (μ9 : TMem), Fr 0 μ μ9 → Q r μ9) (hX : ∀ (E : String) (μ9 : TMem), E ∈ ex_IA → Fr 0 μ μ9 → X E μ9) : wp_X9_arrows μ a1 a2 a3 Q X := by
  show wp_X9_machineAt μ a1 (fun (k2 : Nat) (μ1 : TMem) => wp_X9_checkState k2 μ1 a2 (fun (μ3 : TMem) => wp_X9_checkSign μ3 a3 (fun (μ4 : TMem) => wp_X7_at k2 μ4 a2 a3 (fun (r5 : Int32) => Q r5 μ4)) X) X) X
  refine f_X9_machineAt μ a1 (fun k2 μ1 hk462 hf463 => ?_) (fun E9 μ9 e9 f9 => hX E9 μ9 (ex_sub (by decide) e9) (Fr.trans (Fr.rf) (Fr.up (by decide) f9)))
  refine f_X9_checkState k2 hk462 μ1 a2 (fun μ3 hf464 => ?_) (fun E9 μ9 e9 f9 => hX E9 μ9 (ex_sub (by decide) e9) (Fr.trans (Fr.trans (Fr.rf) (Fr.up (by decide) hf463)) (Fr.up (by decide) f9)))
  refine f_X9_checkSign μ3 a3 (fun μ4 hf465 => ?_) (fun E9 μ9 e9 f9 => hX E9 μ9 (ex_sub (by decide) e9) (Fr.trans (Fr.trans (Fr.trans (Fr.rf) (Fr.up (by decide) hf463)) (Fr.up (by decide) hf464)) (Fr.up (by decide) f9)))
  refine f_X7_at k2 (Or.inl hk462) μ4 a2 a3 (fun r5 => ?_)
  exact h _ _ (Fr.trans (Fr.trans (Fr.trans (Fr.rf) (Fr.up (by decide) hf463)) (Fr.up (by decide) hf464)) (Fr.up (by decide) hf465))
set_option maxHeartbeats 2000000 in
theorem f_X9_checkWord (μ : TMem) (a0 : Int32) (a1 : Int32) {Q : TMem → Prop} {X : String → TMem → Prop} (h : ∀ μ9 : TMem, Fr 0 μ μ9 → Q μ9) (hX : ∀ (E : String) (μ9 : TMem), E ∈ ex_A → Fr 0 μ μ9 → X E μ9) : wp_X9_checkWord μ a0 a1 Q X := by
  show wp_X9_checkRange μ a0 (0 : Int32) (12 : Int32) (fun (μ1 : TMem) => wp_X9_countCodes a0 (fun (r2 : Int32) => wp_X9_checkRange μ1 a1 (0 : Int32) (r2 - (1 : Int32)) (fun (μ3 : TMem) => Q μ3) X)) X
  refine f_X9_checkRange μ a0 (0 : Int32) (12 : Int32) (fun μ1 hf466 => ?_) (fun E9 μ9 e9 f9 => hX E9 μ9 e9 (Fr.trans (Fr.rf) (Fr.up (by decide) f9)))
  refine f_X9_countCodes a0 (fun r2 => ?_)
  refine f_X9_checkRange μ1 a1 (0 : Int32) (r2 - (1 : Int32)) (fun μ3 hf467 => ?_) (fun E9 μ9 e9 f9 => hX E9 μ9 e9 (Fr.trans (Fr.trans (Fr.rf) (Fr.up (by decide) hf466)) (Fr.up (by decide) f9)))
  exact h _ (Fr.trans (Fr.trans (Fr.rf) (Fr.up (by decide) hf466)) (Fr.up (by decide) hf467))
set_option maxHeartbeats 2000000 in
theorem f_X9_takes (μ : TMem) (a1 : Int32) (a2 : Int32) (a3 : Int32) {Q : Int32 → TMem → Prop} {X : String → TMem → Prop} (h : ∀ (r : Int32) (μ9 : TMem), isB r → Fr 0 μ μ9 → Q r μ9) (hX : ∀ (E : String) (μ9 : TMem), E ∈ ex_IA → Fr 0 μ μ9 → X E μ9) : wp_X9_takes μ a1 a2 a3 Q X := by
  show wp_X9_machineAt μ a1 (fun (k2 : Nat) (μ1 : TMem) => wp_X9_checkWord μ1 a2 a3 (fun (μ3 : TMem) => wp_X2_isTaking k2 μ3 a2 a3 (fun (r4 : Int32) => isB r4 ∧ Q r4 μ3)) X) X
  refine f_X9_machineAt μ a1 (fun k2 μ1 hk468 hf469 => ?_) (fun E9 μ9 e9 f9 => hX E9 μ9 (ex_sub (by decide) e9) (Fr.trans (Fr.rf) (Fr.up (by decide) f9)))
  refine f_X9_checkWord μ1 a2 a3 (fun μ3 hf470 => ?_) (fun E9 μ9 e9 f9 => hX E9 μ9 (ex_sub (by decide) e9) (Fr.trans (Fr.trans (Fr.rf) (Fr.up (by decide) hf469)) (Fr.up (by decide) f9)))
  refine f_X2_isTaking k2 hk468 μ3 a2 a3 (fun r4 b471 => ?_)
  refine ⟨(by first | assumption | exact Or.inl rfl | exact Or.inr rfl | exact isB_or (by assumption) (by first | assumption | exact Or.inl rfl | exact Or.inr rfl)), ?_⟩
  exact h _ _ (by first | assumption | exact Or.inl rfl | exact Or.inr rfl | exact isB_or (by assumption) (by first | assumption | exact Or.inl rfl | exact Or.inr rfl)) (Fr.trans (Fr.trans (Fr.rf) (Fr.up (by decide) hf469)) (Fr.up (by decide) hf470))
set_option maxHeartbeats 2000000 in
theorem f_X9_makeOrThrow (k2 : Nat) (hk2 : kd k2 = 2) (k3 : Nat) (hk3 : kd k3 = 5) (μ : TMem) (a1 : Int32) {Q : TMem → Prop} {X : String → TMem → Prop} (h : ∀ μ9 : TMem, Fr 2 μ μ9 → Q μ9) (hX : ∀ (E : String) (μ9 : TMem), E ∈ ex_S → Fr 2 μ μ9 → X E μ9) : wp_X9_makeOrThrow k2 k3 μ a1 Q X := by
  show wp_X3_makeBy k2 k3 μ a1 (fun (r2 : Int32) (μ1 : TMem) => (¬ r2 = 0 → (Q μ1)) ∧ (r2 = 0 → (X "java/lang/IllegalStateException" μ1)))
  refine f_X3_makeBy k2 hk2 k3 hk3 μ a1 (fun r2 μ1 b472 hf473 => ?_)
  refine ⟨fun c474 => ?_, fun c475 => ?_⟩
  · exact h _ (Fr.trans (Fr.rf) (Fr.up (by decide) hf473))
  · exact hX _ _ (by decide) (Fr.trans (Fr.rf) (Fr.up (by decide) hf473))
set_option maxHeartbeats 2000000 in
theorem f_X9_after (μ : TMem) (a1 : Int32) (a2 : Int32) (a3 : Int32) (a4 : Int32) {Q : Int32 → TMem → Prop} {X : String → TMem → Prop} (h : ∀ (r : Int32) (μ9 : TMem), Fr 2 μ μ9 → Q r μ9) (hX : ∀ (E : String) (μ9 : TMem), E ∈ ex_IAS → Fr 2 μ μ9 → X E μ9) : wp_X9_after μ a1 a2 a3 a4 Q X := by
  show wp_X9_machineAt μ a1 (fun (k2 : Nat) (μ1 : TMem) => wp_X9_checkWord μ1 a2 a3 (fun (μ3 : TMem) => wp_X9_checkRange μ3 a4 (0 : Int32) (2 : Int32) (fun (μ4 : TMem) => (¬ a4 = 0 → ((¬ a4 = (1 : Int32) → (wp_X9_makeOrThrow k2 57 μ4 (0 : Int32) (fun (μ7 : TMem) => wp_X5_stateAfter 57 μ7 a2 a3 (fun (r8 : Int32) => Q r8 μ7)) X)) ∧ (a4 = (1 : Int32) → (wp_X9_makeOrThrow k2 57 μ4 (3 : Int32) (fun (μ11 : TMem) => wp_X5_stateAfter 57 μ11 a2 a3 (fun (r12 : Int32) => Q r12 μ11)) X)))) ∧ (a4 = 0 → (wp_X2_statesAfter k2 μ4 a2 a3 (fun (r15 : Int32) => Q r15 μ4)))) X) X) X
  refine f_X9_machineAt μ a1 (fun k2 μ1 hk476 hf477 => ?_) (fun E9 μ9 e9 f9 => hX E9 μ9 (ex_sub (by decide) e9) (Fr.trans (Fr.rf) (Fr.up (by decide) f9)))
  refine f_X9_checkWord μ1 a2 a3 (fun μ3 hf478 => ?_) (fun E9 μ9 e9 f9 => hX E9 μ9 (ex_sub (by decide) e9) (Fr.trans (Fr.trans (Fr.rf) (Fr.up (by decide) hf477)) (Fr.up (by decide) f9)))
  refine f_X9_checkRange μ3 a4 (0 : Int32) (2 : Int32) (fun μ4 hf479 => ?_) (fun E9 μ9 e9 f9 => hX E9 μ9 (ex_sub (by decide) e9) (Fr.trans (Fr.trans (Fr.trans (Fr.rf) (Fr.up (by decide) hf477)) (Fr.up (by decide) hf478)) (Fr.up (by decide) f9)))
  refine ⟨fun c480 => ?_, fun c481 => ?_⟩
  · refine ⟨fun c482 => ?_, fun c483 => ?_⟩
    · refine f_X9_makeOrThrow k2 hk476 57 rfl μ4 (0 : Int32) (fun μ7 hf484 => ?_) (fun E9 μ9 e9 f9 => hX E9 μ9 (ex_sub (by decide) e9) (Fr.trans (Fr.trans (Fr.trans (Fr.trans (Fr.rf) (Fr.up (by decide) hf477)) (Fr.up (by decide) hf478)) (Fr.up (by decide) hf479)) (Fr.up (by decide) f9)))
      refine f_X5_stateAfter 57 rfl μ7 a2 a3 (fun r8 => ?_)
      exact h _ _ (Fr.trans (Fr.trans (Fr.trans (Fr.trans (Fr.rf) (Fr.up (by decide) hf477)) (Fr.up (by decide) hf478)) (Fr.up (by decide) hf479)) (Fr.up (by decide) hf484))
    · refine f_X9_makeOrThrow k2 hk476 57 rfl μ4 (3 : Int32) (fun μ11 hf485 => ?_) (fun E9 μ9 e9 f9 => hX E9 μ9 (ex_sub (by decide) e9) (Fr.trans (Fr.trans (Fr.trans (Fr.trans (Fr.rf) (Fr.up (by decide) hf477)) (Fr.up (by decide) hf478)) (Fr.up (by decide) hf479)) (Fr.up (by decide) f9)))
      refine f_X5_stateAfter 57 rfl μ11 a2 a3 (fun r12 => ?_)
      exact h _ _ (Fr.trans (Fr.trans (Fr.trans (Fr.trans (Fr.rf) (Fr.up (by decide) hf477)) (Fr.up (by decide) hf478)) (Fr.up (by decide) hf479)) (Fr.up (by decide) hf485))
  · refine f_X2_statesAfter k2 hk476 μ4 a2 a3 (fun r15 => ?_)
    exact h _ _ (Fr.trans (Fr.trans (Fr.trans (Fr.rf) (Fr.up (by decide) hf477)) (Fr.up (by decide) hf478)) (Fr.up (by decide) hf479))
