section GLS
theorem k5 {μ μ1 : TMem} {k : Nat} (hk : kd k = 5) (f : Fr 0 μ μ1) : μ1 k 1 = μ k 1 := f.1 k 1 (by rw [hk]; rfl)
theorem tms_at {μ : TMem} {k i : Nat} {v : Int32} : (tms μ k i v) k i = v := by simp [tms, upd]
theorem tms_o {μ : TMem} {k i j : Nat} {v : Int32} (h : j ≠ i) : (tms μ k i v) k j = μ k j := by simp [tms, upd, h]
theorem up2 {a b : TMem} (f : Fr 0 a b) : Fr 2 a b := f.up (by decide)
theorem st2 {a b : TMem} {k i : Nat} {v : Int32} (f : Fr 2 a b) (hk : kd k = 5) : Fr 2 a (tms b k i v) := f.st (by rw [hk]; rfl) (Or.inl (ne43 hk (by decide)))
theorem inc_b {x : Int32} {b : Int} (h : x.toInt ≤ b) (hb : b < 2147483647) : (x + (1 : Int32)).toInt ≤ b + 1 := by
  have h1 := x.le_toInt
  have : (x + (1 : Int32)).toInt = x.toInt + 1 := ii_a rfl rfl (by omega) (by omega)
  omega
theorem g_numberOf (k2 : Nat) (hk2 : kd k2 = 5) (μ : TMem) (a1 : Int32) {Q : Int32 → TMem → Prop} (hS : (μ k2 1).toInt ≤ 32) (h : ∀ (r : Int32) (μ9 : TMem), Fr 2 μ μ9 → (μ9 k2 1).toInt ≤ 32 → Q r μ9) : wp_X3_numberOf k2 μ a1 Q := by
  unfold wp_X3_numberOf
  refine f_X6_find 16 rfl μ a1 (μ k2 1) (fun r1 => ⟨fun _ => h _ _ Fr.rf hS, fun _ => ⟨fun c => ?_, fun _ => h _ _ Fr.rf hS⟩⟩)
  refine f_X6_put 16 rfl μ (μ k2 1) a1 (Or.inl (by decide)) (fun μ6 f6 => h _ _ (st2 (up2 f6) hk2) ?_)
  rw [tms_at, k5 hk2 f6]
  have c1 := l_lt.mp c
  rw [show (32 : Int32).toInt = 32 from rfl] at c1
  have := inc_b (x := μ k2 1) (b := 31) (by omega) (by omega)
  omega
theorem g_makeOneWay_78 (μ0 : TMem) (k1 : Nat) (hk1 : kd k1 = 2) (k2 : Nat) (hk2 : kd k2 = 5) (v15 : Int32) (v16 : Int32) {K122 : TMem → Prop} {Q : Int32 → TMem → Prop} (hK122 : ∀ (u0 : TMem), Fr 2 μ0 u0 → (u0 k2 1).toInt ≤ 32 → K122 u0) (h : ∀ (r : Int32) (μ9 : TMem), isB r → Fr 2 μ0 μ9 → (μ9 k2 1).toInt ≤ 32 → Q r μ9) : ∀ (n : Nat) (v14 : Int32) (μ17 : TMem), (((3 : Int32)).toInt - (v14).toInt).toNat < n → 0 ≤ (v14).toInt → Fr 2 μ0 μ17 → (μ17 k2 1).toInt ≤ 32 → wpl_X3_makeOneWay_78 k1 k2 v15 v16 K122 Q n v14 μ17 := by
  intro n
  induction n with
  | zero => intro v14 μ17 hm; exact absurd hm (Nat.not_lt_zero _)
  | succ n ih =>
    intro v14 μ17 hm hi hF hS
    refine ⟨fun c_ex => hK122 μ17 hF hS, fun c_lt => ?_⟩
    refine f_X2_reach k1 hk1 μ17 v15 v14 (fun r19 => ?_)
    refine g_numberOf k2 hk2 μ17 r19 hS (fun r23 μ22 f22 hS2 => ?_)
    refine ⟨fun _ => ?_, fun _ => h _ _ (Or.inl rfl) (hF.trans f22) hS2⟩
    refine f_X7_put k2 (Or.inr hk2) μ22 v16 v14 r23 (fun μ25 f25 => ?_)
    exact ih (v14 + (1 : Int32)) μ25 (lt_m c_lt (by omega)) (lt_p hi c_lt) ((hF.trans f22).trans (up2 f25)) (by rw [k5 hk2 f25]; exact hS2)
theorem g_makeOneWay_24 (μ0 : TMem) (k1 : Nat) (hk1 : kd k1 = 2) (k2 : Nat) (hk2 : kd k2 = 5) {Q : Int32 → TMem → Prop} (h : ∀ (r : Int32) (μ9 : TMem), isB r → Fr 2 μ0 μ9 → (μ9 k2 1).toInt ≤ 32 → Q r μ9) : ∀ (n : Nat) (v3 : Int32) (μ4 : TMem), (((32 : Int32)).toInt - (v3).toInt).toNat < n → 0 ≤ (v3).toInt → Fr 2 μ0 μ4 → (μ4 k2 1).toInt ≤ 32 → wpl_X3_makeOneWay_24 k1 k2 Q n v3 μ4 := by
  intro n
  induction n with
  | zero => intro v3 μ4 hm; exact absurd hm (Nat.not_lt_zero _)
  | succ n ih =>
    intro v3 μ4 hm hi hF hS
    refine ⟨fun c_ex => h _ _ (Or.inr rfl) hF hS, fun c_lt => ⟨fun _ => h _ _ (Or.inr rfl) hF hS, fun _ => ?_⟩⟩
    refine f_X6_at 16 rfl μ4 v3 (fun r7 => ?_)
    have key : ∀ j11 : Int32, wp_X9_withOrWithout (μ4 k2 2) v3 j11 (fun (r12 : Int32) => ∃ n12x, wpl_X3_makeOneWay_78 k1 k2 r7 v3 (fun (μ27 : TMem) => wpl_X3_makeOneWay_24 k1 k2 Q n (v3 + (1 : Int32)) μ27) Q n12x (0 : Int32) (tms μ4 k2 2 r12)) := fun j11 => by
      refine f_X9_withOrWithout (μ4 k2 2) v3 j11 (fun r12 => ?_)
      have hS3 : ((tms μ4 k2 2 r12) k2 1).toInt ≤ 32 := by rw [tms_o (by decide)]; exact hS
      exact ⟨_, g_makeOneWay_78 μ0 k1 hk1 k2 hk2 r7 v3 (fun μ27 f27 hS27 => ih (v3 + (1 : Int32)) μ27 (lt_m c_lt (by omega)) (lt_p hi c_lt) f27 hS27) h _ (0 : Int32) _ (Nat.lt_succ_self _) (by decide) (st2 hF hk2) hS3⟩
    intro J10 hJ10
    exact ⟨fun _ => hJ10 _ (key _), fun _ => hJ10 _ (key _)⟩
theorem g_makeOneWay (k1 : Nat) (hk1 : kd k1 = 2) (k2 : Nat) (hk2 : kd k2 = 5) (μ : TMem) {Q : Int32 → TMem → Prop} (h : ∀ (r : Int32) (μ9 : TMem), isB r → Fr 2 μ μ9 → (μ9 k2 1).toInt ≤ 32 → Q r μ9) : wp_X3_makeOneWay k1 k2 μ Q := by
  refine f_X6_put 16 rfl μ (0 : Int32) (μ k1 3) (Or.inl (by decide)) (fun μ1 f1 => ?_)
  exact ⟨_, g_makeOneWay_24 μ k1 hk1 k2 hk2 h _ (0 : Int32) _ (Nat.lt_succ_self _) (by decide) (st2 (st2 (up2 f1) hk2) hk2) (by rw [tms_o (by decide), tms_at]; decide)⟩
theorem g_groupNumber (k2 : Nat) (hk2 : kd k2 = 5) (μ : TMem) (a1 : Int32) {Q : Int32 → TMem → Prop} {b : Int} (hb : 0 ≤ b) (hb2 : b < 1000) (hS : (μ k2 1).toInt ≤ b) (h : ∀ (r : Int32) (μ9 : TMem), Fr 2 μ μ9 → (μ9 k2 1).toInt ≤ b + 1 → Q r μ9) : wp_X3_groupNumber k2 μ a1 Q := by
  unfold wp_X3_groupNumber
  refine f_X1_partOf μ a1 (fun r1 => ?_)
  refine f_X6_at 20 rfl μ r1 (fun r4 => ?_)
  intro J7 hJ7
  refine ⟨fun _ => ?_, fun _ => ?_⟩
  · exact f_X6_at 20 rfl μ r1 (fun r13 => h _ _ Fr.rf (by omega))
  · refine f_X6_put 20 rfl μ r1 (μ k2 1) (Or.inl (by decide)) (fun μ16 f16 => ?_)
    refine f_X6_put 18 rfl μ16 (μ16 k2 1) a1 (Or.inl (by decide)) (fun μ17 f17 => ?_)
    refine hJ7 _ ?_
    refine f_X6_at 20 rfl _ r1 (fun r9 => h _ _ (st2 (up2 (f16.trans f17)) hk2) ?_)
    rw [tms_at, k5 hk2 (f16.trans f17)]
    exact inc_b hS (by omega)
theorem g_makeGroups_90 (μ0 : TMem) (k1 : Nat) (hk1 : kd k1 = 5) (k2 : Nat) (hk2 : kd k2 = 5) (v21 : Int32) (v22 : Int32) (b : Int) (hb : 0 ≤ b) (hb2 : b < 500) {K122 : TMem → Prop} (hK122 : ∀ (u0 : TMem), Fr 2 μ0 u0 → (u0 k2 1).toInt ≤ b + 3 → K122 u0) : ∀ (n : Nat) (v20 : Int32) (μ23 : TMem), (((3 : Int32)).toInt - (v20).toInt).toNat < n → 0 ≤ (v20).toInt → v20.toInt ≤ 3 → Fr 2 μ0 μ23 → (μ23 k2 1).toInt ≤ b + v20.toInt → wpl_X3_makeGroups_90 k1 k2 v21 v22 K122 n v20 μ23 := by
  intro n
  induction n with
  | zero => intro v20 μ23 hm; exact absurd hm (Nat.not_lt_zero _)
  | succ n ih =>
    intro v20 μ23 hm hi h3 hF hS
    refine ⟨fun c_ex => hK122 μ23 hF (by omega), fun c_lt => ?_⟩
    have c1 := nle c_lt
    have e1 := inc_i c_lt
    rw [show (3 : Int32).toInt = 3 from rfl] at c1
    refine f_X7_at k1 (Or.inr hk1) μ23 v21 v20 (fun r25 => ?_)
    refine g_groupNumber k2 hk2 μ23 r25 (b := b + v20.toInt) (by omega) (by omega) hS (fun r29 μ28 f28 hS2 => ?_)
    refine f_X7_put k2 (Or.inr hk2) μ28 v22 v20 r29 (fun μ30 f30 => ?_)
    exact ih (v20 + (1 : Int32)) μ30 (lt_m c_lt (by omega)) (lt_p hi c_lt) (by omega) ((hF.trans f28).trans (up2 f30)) (by rw [k5 hk2 f30]; omega)
theorem g_makeGroups_45 (μ0 : TMem) (k1 : Nat) (hk1 : kd k1 = 5) (k2 : Nat) (hk2 : kd k2 = 5) {Q : TMem → Prop} (h : ∀ μ9 : TMem, Fr 2 μ0 μ9 → (μ9 k2 1).toInt ≤ 97 → Q μ9) : ∀ (n : Nat) (v8 : Int32) (μ9 : TMem), (((32 : Int32)).toInt - (v8).toInt).toNat < n → 0 ≤ (v8).toInt → v8.toInt ≤ 32 → Fr 2 μ0 μ9 → (μ9 k2 1).toInt ≤ 1 + 3 * v8.toInt → wpl_X3_makeGroups_45 k1 k2 Q n v8 μ9 := by
  intro n
  induction n with
  | zero => intro v8 μ9 hm; exact absurd hm (Nat.not_lt_zero _)
  | succ n ih =>
    intro v8 μ9 hm hi h32 hF hS
    refine ⟨fun c_ex => h _ hF (by omega), fun c_lt => ⟨fun _ => h _ hF (by omega), fun _ => ?_⟩⟩
    have c1 := nle c_lt
    have e1 := inc_i c_lt
    rw [show (32 : Int32).toInt = 32 from rfl] at c1
    refine f_X6_at 18 rfl μ9 v8 (fun r12 => ?_)
    refine f_X5_isGoal k1 hk1 μ9 r12 (fun r15 b152 => ?_)
    refine f_X9_withOrWithout (μ9 k2 2) v8 r15 (fun r18 => ?_)
    have hS3 : ((tms μ9 k2 2 r18) k2 1).toInt ≤ 1 + 3 * v8.toInt + (0 : Int32).toInt := by rw [tms_o (by decide), ii_0]; omega
    exact ⟨_, g_makeGroups_90 μ0 k1 hk1 k2 hk2 r12 v8 (1 + 3 * v8.toInt) (by omega) (by omega) (fun μ32 f32 hS32 => ih (v8 + (1 : Int32)) μ32 (lt_m c_lt (by omega)) (lt_p hi c_lt) (by omega) f32 (by omega)) _ (0 : Int32) _ (Nat.lt_succ_self _) (by decide) (by decide) (st2 hF hk2) hS3⟩
theorem g_makeGroups (k1 : Nat) (hk1 : kd k1 = 5) (k2 : Nat) (hk2 : kd k2 = 5) (μ : TMem) {Q : TMem → Prop} (h : ∀ μ9 : TMem, Fr 2 μ μ9 → (μ9 k2 1).toInt ≤ 97 → Q μ9) : wp_X3_makeGroups k1 k2 μ Q := by
  refine f_X6_fill 20 rfl μ (-1 : Int32) (by decide) (fun μ1 f1 => ?_)
  refine f_X1_partOf μ1 (0 : Int32) (fun r2 => ?_)
  refine f_X6_put 20 rfl μ1 r2 (0 : Int32) (Or.inl (by decide)) (fun μ5 f5 => ?_)
  refine f_X6_put 18 rfl μ5 (0 : Int32) (0 : Int32) (Or.inl (by decide)) (fun μ6 f6 => ?_)
  exact ⟨_, g_makeGroups_45 μ k1 hk1 k2 hk2 h _ (0 : Int32) _ (Nat.lt_succ_self _) (by decide) (by decide) (st2 (st2 (up2 ((f1.trans f5).trans f6)) hk2) hk2) (by rw [tms_o (by decide), tms_at]; decide)⟩
theorem g_makeByTurning (k1 : Nat) (hk1 : kd k1 = 2) (k2 : Nat) (hk2 : kd k2 = 5) (μ : TMem) {Q : Int32 → TMem → Prop} (h : ∀ (r : Int32) (μ9 : TMem), isB r → Fr 2 μ μ9 → (r ≠ 0 → (μ9 k2 1).toInt ≤ 97) → Q r μ9) : wp_X3_makeByTurning k1 k2 μ Q := by
  refine f_X2_becomeRound 31 rfl k1 hk1 μ (fun μ1 f1 => ?_)
  refine f_X3_makeOneWay 31 rfl 33 rfl μ1 (fun r3 μ2 b2 f2 => ⟨fun _ => ?_, fun _ => h _ _ (Or.inl rfl) (f1.trans f2) (fun z => absurd rfl z)⟩)
  refine f_X2_becomePlain 29 rfl 33 rfl μ2 (fun μ5 f5 => ?_)
  refine f_X2_becomeRound 31 rfl 29 rfl μ5 (fun μ6 f6 => ?_)
  exact g_makeOneWay 31 rfl k2 hk2 μ6 (fun r8 μ7 b8 f7 hS => ⟨b8, h _ _ b8 ((((f1.trans f2).trans f5).trans f6).trans f7) (fun _ => by omega)⟩)
theorem g_makeBy (k2 : Nat) (hk2 : kd k2 = 2) (k3 : Nat) (hk3 : kd k3 = 5) (μ : TMem) (a1 : Int32) {Q : Int32 → TMem → Prop} (h : ∀ (r : Int32) (μ9 : TMem), isB r → Fr 2 μ μ9 → (r ≠ 0 → (μ9 k3 1).toInt ≤ 97) → Q r μ9) : wp_X3_makeBy k2 k3 μ a1 Q := by
  refine ⟨fun _ => ⟨fun _ => ?_, fun _ => ?_⟩, fun _ => ?_⟩
  · refine f_X3_makeOneWay k2 hk2 33 rfl μ (fun r4 μ3 b4 f3 => ⟨fun _ => ?_, fun _ => h _ _ (Or.inl rfl) f3 (fun z => absurd rfl z)⟩)
    intro J6 hJ6
    refine ⟨fun _ => ?_, fun _ => ?_⟩
    · refine f_X1_findByParting 33 rfl μ3 (fun μ10 f10 => hJ6 μ10 ?_)
      exact g_makeGroups 33 rfl k3 hk3 μ10 (fun μ8 f8 hS => h _ _ (Or.inr rfl) ((f3.trans (up2 f10)).trans f8) (fun _ => hS))
    · refine f_X1_findByPairs 33 rfl μ3 (fun μ10 f10 => hJ6 μ10 ?_)
      exact g_makeGroups 33 rfl k3 hk3 μ10 (fun μ8 f8 hS => h _ _ (Or.inr rfl) ((f3.trans (up2 f10)).trans f8) (fun _ => hS))
  · exact g_makeByTurning k2 hk2 k3 hk3 μ (fun r μ9 b9 f9 hS => ⟨b9, h _ _ b9 f9 hS⟩)
  · exact g_makeOneWay k2 hk2 k3 hk3 μ (fun r μ9 b9 f9 hS => ⟨b9, h _ _ b9 f9 (fun _ => by omega)⟩)
theorem g_makeOrThrow (k2 : Nat) (hk2 : kd k2 = 2) (k3 : Nat) (hk3 : kd k3 = 5) (μ : TMem) (a1 : Int32) {Q : TMem → Prop} {X : String → TMem → Prop} (h : ∀ μ9 : TMem, Fr 2 μ μ9 → (μ9 k3 1).toInt ≤ 97 → Q μ9) (hX : ∀ (E : String) (μ9 : TMem), E ∈ ex_S → Fr 2 μ μ9 → X E μ9) : wp_X9_makeOrThrow k2 k3 μ a1 Q X :=
  g_makeBy k2 hk2 k3 hk3 μ a1 (fun r μ9 b9 f9 hS => ⟨fun c => h _ f9 (hS c), fun _ => hX _ _ (by decide) f9⟩)
theorem f_X9_text (μ : TMem) (a1 : Int32) (a2 : Int32) {Q : TMem → Prop} {X : String → TMem → Prop} (h : ∀ μ9 : TMem, Fr 2 μ μ9 → Q μ9) (hX : ∀ (E : String) (μ9 : TMem), E ∈ ex_IAS → Fr 2 μ μ9 → X E μ9) : wp_X9_text μ a1 a2 Q X := by
  refine f_X9_machineAt μ a1 (fun k2 μ1 hk2 f1 => ?_) (fun E μ9 e9 f9 => hX E μ9 (ex_sub (by decide) e9) (up2 f9))
  refine f_X9_checkRange μ1 a2 (0 : Int32) (3 : Int32) (fun μ3 f3 => ?_) (fun E μ9 e9 f9 => hX E μ9 (ex_sub (by decide) e9) (up2 (f1.trans f9)))
  exact g_makeOrThrow k2 hk2 57 rfl μ3 a2 (fun μ4 f4 hS => ⟨by omega, h _ ((up2 (f1.trans f3)).trans f4)⟩) (fun E μ9 e9 f9 => hX E μ9 (ex_sub (by decide) e9) ((up2 (f1.trans f3)).trans f9))
theorem f_X9_word (μ : TMem) (a1 : Int32) (a2 : Int32) {Q : TMem → Prop} {X : String → TMem → Prop} (h : ∀ μ9 : TMem, Fr 2 μ μ9 → Q μ9) (hX : ∀ (E : String) (μ9 : TMem), E ∈ ex_IAS → Fr 2 μ μ9 → X E μ9) : wp_X9_word μ a1 a2 Q X := by
  refine f_X9_machineAt μ a1 (fun k2 μ1 hk2 f1 => ?_) (fun E μ9 e9 f9 => hX E μ9 (ex_sub (by decide) e9) (up2 f9))
  refine ⟨fun _ => ?_, fun _ => hX _ _ (by decide) (up2 f1)⟩
  refine f_X9_makeOrThrow k2 hk2 57 rfl μ1 (0 : Int32) (fun μ4 f4 => ?_) (fun E μ9 e9 f9 => hX E μ9 (ex_sub (by decide) e9) ((up2 f1).trans f9))
  exact f_X8_count 57 rfl μ4 (fun μ5 f5 => h _ (((up2 f1).trans f4).trans (f5.up (by decide))))
theorem f_X9_apart (μ : TMem) (a1 : Int32) (a2 : Int32) {Q : TMem → Prop} {X : String → TMem → Prop} (hG : GB μ) (h : ∀ μ9 : TMem, Fr 2 μ μ9 → Q μ9) (hX : ∀ (E : String) (μ9 : TMem), E ∈ ex_IS → Fr 2 μ μ9 → X E μ9) : wp_X9_apart μ a1 a2 Q X := by
  refine f_X9_machineAt μ a1 (fun k2 μ1 hk2 f1 => ?_) (fun E μ9 e9 f9 => hX E μ9 (ex_sub (by decide) e9) (up2 f9))
  refine f_X9_machineAt μ1 a2 (fun k4 μ3 hk4 f3 => ?_) (fun E μ9 e9 f9 => hX E μ9 (ex_sub (by decide) e9) (up2 (f1.trans f9)))
  refine f_X9_meetOrThrow k2 hk2 k4 hk4 μ3 (fun μ5 f5 => ?_) (fun E μ9 e9 f9 => hX E μ9 (ex_sub (by decide) e9) ((up2 (f1.trans f3)).trans f9))
  have f9 := (up2 (f1.trans f3)).trans f5
  exact ⟨fun _ => ⟨f9.2 hG, h _ f9⟩, fun _ => h _ f9⟩
end GLS
