section ZFR
/-- as Fr, and the machines' rows as they were -/
def Zr (lv : Nat) (μ μ1 : TMem) : Prop := Fr lv μ μ1 ∧ ∀ k, k ≤ 9 → μ1 k = μ k
theorem kd5' {k : Nat} (h : kd k = 5) : 9 < k := by have := kd5 h; omega
theorem kd6' {k : Nat} (h : kd k = 6) : 9 < k := Nat.lt_of_not_le (fun c => absurd h ((show ∀ k, k < 10 → kd k ≠ 6 by decide) k (by omega)))
theorem Zr.rf {lv : Nat} {μ : TMem} : Zr lv μ μ := ⟨Fr.rf, fun _ _ => rfl⟩
theorem Zr.trans {lv : Nat} {a b c : TMem} (h1 : Zr lv a b) (h2 : Zr lv b c) : Zr lv a c := ⟨h1.1.trans h2.1, fun k hk => (h2.2 k hk).trans (h1.2 k hk)⟩
theorem Zr.up {l1 l2 : Nat} {a b : TMem} (h : l1 ≤ l2) (h1 : Zr l1 a b) : Zr l2 a b := ⟨h1.1.up h, h1.2⟩
theorem Zr.st {lv : Nat} {a b : TMem} {k i : Nat} {v : Int32} (h : Zr lv a b) (hp : prot lv (kd k) i = false) (hk : k ≠ 43 ∨ rng v) (h9 : 9 < k := by first | decide | assumption | exact kd5' (by assumption) | exact kd6' (by assumption) | exact Nat.lt_succ_of_lt (kd5' (by assumption)) | exact Nat.lt_succ_of_lt (kd6' (by assumption)) | omega) : Zr lv a (tms b k i v) := ⟨h.1.st hp hk, fun j hj => by rw [tms_ne (by omega)]; exact h.2 j hj⟩
theorem Zr.zf {lv : Nat} {a b : TMem} (h : Zr lv a b) : ZF a b := ⟨h.2, h.1.2⟩
theorem zk5 {μ μ1 : TMem} {k : Nat} (hk : kd k = 5) (f : Zr 0 μ μ1) : μ1 k 1 = μ k 1 := k5 hk f.1
theorem zu2 {a b : TMem} (f : Zr 0 a b) : Zr 2 a b := f.up (by decide)
theorem zt2 {a b : TMem} {k i : Nat} {v : Int32} (f : Zr 2 a b) (hk : kd k = 5) : Zr 2 a (tms b k i v) := f.st (by rw [hk]; rfl) (Or.inl (ne43 hk (by decide))) (kd5' hk)
theorem z_machineAt0 (μ : TMem) {Q : Nat → TMem → Prop} {X : String → TMem → Prop} (h : ∀ (r : Nat) (μ9 : TMem), kd r = 2 → Zr 0 μ μ9 → Q r μ9) : wp_X9_machineAt μ (0 : Int32) Q X := by
  show ((0 : Int32) < 0 → (X "java/lang/IndexOutOfBoundsException" μ)) ∧ (¬ (0 : Int32) < 0 → (((0 : Int32) < (4 : Int32) → (vp_in (0 : Int32) 4 ∧ (Q (2 + 2 * (0 : Int32).toNatClampNeg) μ))) ∧ (¬ (0 : Int32) < (4 : Int32) → (X "java/lang/IndexOutOfBoundsException" μ))))
  exact ⟨fun z => absurd z (by decide), fun _ => ⟨fun _ => ⟨vp_in_iff.mpr (by decide), h _ _ rfl Zr.rf⟩, fun z => absurd (by decide) z⟩⟩
set_option maxHeartbeats 2000000 in
theorem z_X7_put (k0 : Nat) (hk0 : (kd k0 = 2 ∨ kd k0 = 5) ∧ 9 < k0) (μ : TMem) (a1 : Int32) (a2 : Int32) (a3 : Int32) {Q : TMem → Prop} (h : ∀ μ9 : TMem, Zr 0 μ μ9 → Q μ9) : wp_X7_put k0 μ a1 a2 a3 Q := by
  show (((a1 * (3 : Int32)) + a2) < 0 → (Q μ)) ∧ (¬ ((a1 * (3 : Int32)) + a2) < 0 → (((nI (tl (k0 + 1))) ≤ ((a1 * (3 : Int32)) + a2) → (Q μ)) ∧ (¬ (nI (tl (k0 + 1))) ≤ ((a1 * (3 : Int32)) + a2) → (vp_in ((a1 * (3 : Int32)) + a2) (tl (k0 + 1)) ∧ (Q (tms μ (k0 + 1) ((a1 * (3 : Int32)) + a2).toNatClampNeg a3))))))
  refine ⟨fun c10 => ?_, fun c11 => ?_⟩
  · exact h _ (Zr.rf)
  · refine ⟨fun c12 => ?_, fun c13 => ?_⟩
    · exact h _ (Zr.rf)
    · have hv14 : vp_in ((a1 * (3 : Int32)) + a2) (tl (k0 + 1)) := (by first | exact vp_a (by assumption) (by assumption) (tl_s _) | exact vp_b (by assumption) (by assumption) (tl_s _) | exact vp_a (n := 4) (by assumption) (by assumption) (by decide) | exact vp_b (n := 4) (by assumption) (by assumption) (by decide) | exact vp_c (by assumption) (by assumption))
      refine ⟨hv14, ?_⟩
      exact h _ (Zr.st (Zr.rf) (by rw [show kd (k0 + 1) = 9 from (ka_25 hk0.1)] <;> rfl) (Or.inl (ne43b hk0.1)))
set_option maxHeartbeats 2000000 in
theorem zl_wpl_X2_becomePlain_33 (μ0 : TMem) (k0 : Nat) (hk0 : kd k0 = 2 ∧ 9 < k0) (k1 : Nat) (hk1 : kd k1 = 5) (v7 : Int32) {K58 : TMem → Prop} (hK58 : ∀ (u0 : TMem), Zr 0 μ0 u0 → K58 u0) : ∀ (n : Nat) (v6 : Int32) (μ8 : TMem), (((3 : Int32)).toInt - (v6).toInt).toNat < n → 0 ≤ (v6).toInt → Zr 0 μ0 μ8 → wpl_X2_becomePlain_33 k0 k1 v7 K58 n v6 μ8 := by
  intro n
  induction n with
  | zero => intro v6 μ8 hm; exact absurd hm (Nat.not_lt_zero _)
  | succ n ih =>
    intro v6 μ8 hm hi hF
    show ((3 : Int32) ≤ v6 → (K58 μ8)) ∧ (¬ (3 : Int32) ≤ v6 → (wp_X7_at k1 μ8 v7 v6 (fun (r10 : Int32) => wp_X7_put k0 μ8 v7 v6 ((1 : Int32) <<< (r10 &&& 31)) (fun (μ13 : TMem) => wpl_X2_becomePlain_33 k0 k1 v7 K58 n (v6 + (1 : Int32)) μ13))))
    refine ⟨fun c_ex => ?_, fun c_in => ?_⟩
    · exact hK58 μ8 hF
    have c_lt : ¬ ((3 : Int32)) ≤ v6 := c_in
    refine f_X7_at k1 (Or.inr hk1) μ8 v7 v6 (fun r10 => ?_)
    refine z_X7_put k0 ⟨Or.inl hk0.1, hk0.2⟩ μ8 v7 v6 ((1 : Int32) <<< (r10 &&& 31)) (fun μ13 hf15 => ?_)
    exact ih (v6 + (1 : Int32)) μ13 (lt_m c_lt (by omega)) (lt_p (by assumption) c_lt) (Zr.trans hF (Zr.up (by decide) hf15))
set_option maxHeartbeats 2000000 in
theorem zl_wpl_X2_becomePlain_23 (μ0 : TMem) (k0 : Nat) (hk0 : kd k0 = 2 ∧ 9 < k0) (k1 : Nat) (hk1 : kd k1 = 5) {Q : TMem → Prop} (h : ∀ μ9 : TMem, Zr 0 μ0 μ9 → Q μ9) : ∀ (n : Nat) (v2 : Int32) (μ3 : TMem), (((μ0 k0 1)).toInt - (v2).toInt).toNat < n → 0 ≤ (v2).toInt → Zr 0 μ0 μ3 → wpl_X2_becomePlain_23 k0 k1 Q n v2 μ3 := by
  intro n
  induction n with
  | zero => intro v2 μ3 hm; exact absurd hm (Nat.not_lt_zero _)
  | succ n ih =>
    intro v2 μ3 hm hi hF
    show ((μ3 k0 1) ≤ v2 → (Q μ3)) ∧ (¬ (μ3 k0 1) ≤ v2 → (∃ n4x, wpl_X2_becomePlain_33 k0 k1 v2 (fun (μ15 : TMem) => wpl_X2_becomePlain_23 k0 k1 Q n (v2 + (1 : Int32)) μ15) n4x (0 : Int32) μ3))
    refine ⟨fun c_ex => ?_, fun c_in => ?_⟩
    · exact h _ hF
    have e_k0_1 : μ3 k0 1 = μ0 k0 1 := hF.1.1 k0 1 (by rw [show kd k0 = 2 from hk0.1] <;> rfl)
    have c_lt : ¬ ((μ0 k0 1)) ≤ v2 := by
      rw [e_k0_1] at c_in
      exact c_in
    refine ⟨_, zl_wpl_X2_becomePlain_33 μ3 k0 hk0 k1 hk1 v2 ?_ _ (0 : Int32) μ3 (Nat.lt_succ_self _) (by first | decide | omega) Zr.rf⟩
    · intro μ15 hf16
      exact ih (v2 + (1 : Int32)) μ15 (lt_m c_lt (by omega)) (lt_p (by assumption) c_lt) (Zr.trans hF (Zr.up (by decide) hf16))
set_option maxHeartbeats 2000000 in
theorem z_X2_becomePlain (k0 : Nat) (hk0 : kd k0 = 2 ∧ 9 < k0) (k1 : Nat) (hk1 : kd k1 = 5) (μ : TMem)  {Q : TMem → Prop} (h : ∀ μ9 : TMem, Zr 2 μ μ9 → Q μ9) : wp_X2_becomePlain k0 k1 μ Q := by
  show ∃ n0x, wpl_X2_becomePlain_23 k0 k1 Q n0x (0 : Int32) (tms (tms (tms μ k0 1 (μ k1 1)) k0 3 (1 : Int32)) k0 2 ((tms (tms μ k0 1 (μ k1 1)) k0 3 (1 : Int32)) k1 2))
  refine ⟨_, zl_wpl_X2_becomePlain_23 (tms (tms (tms μ k0 1 (μ k1 1)) k0 3 (1 : Int32)) k0 2 ((tms (tms μ k0 1 (μ k1 1)) k0 3 (1 : Int32)) k1 2)) k0 hk0 k1 hk1 (fun μ9 f9 => h μ9 (Zr.trans (Zr.st (Zr.st (Zr.st (Zr.rf) (by rw [show kd k0 = 2 from hk0.1] <;> rfl) (Or.inl (ne43 (K := 2) hk0.1 (by decide)))) (by rw [show kd k0 = 2 from hk0.1] <;> rfl) (Or.inl (ne43 (K := 2) hk0.1 (by decide)))) (by rw [show kd k0 = 2 from hk0.1] <;> rfl) (Or.inl (ne43 (K := 2) hk0.1 (by decide)))) (Zr.up (by decide) f9))) _ (0 : Int32) (tms (tms (tms μ k0 1 (μ k1 1)) k0 3 (1 : Int32)) k0 2 ((tms (tms μ k0 1 (μ k1 1)) k0 3 (1 : Int32)) k1 2)) (Nat.lt_succ_self _) (by first | decide | omega) Zr.rf⟩
set_option maxHeartbeats 2000000 in
theorem z_X6_put (k0 : Nat) (hk0 : kd k0 = 6) (μ : TMem) (a1 : Int32) (a2 : Int32) (hv : k0 + 1 ≠ 43 ∨ rng a2) {Q : TMem → Prop} (h : ∀ μ9 : TMem, Zr 0 μ μ9 → Q μ9) : wp_X6_put k0 μ a1 a2 Q := by
  show (a1 < 0 → (Q μ)) ∧ (¬ a1 < 0 → (((nI (tl (k0 + 1))) ≤ a1 → (Q μ)) ∧ (¬ (nI (tl (k0 + 1))) ≤ a1 → (vp_in a1 (tl (k0 + 1)) ∧ (Q (tms μ (k0 + 1) a1.toNatClampNeg a2))))))
  refine ⟨fun c22 => ?_, fun c23 => ?_⟩
  · exact h _ (Zr.rf)
  · refine ⟨fun c24 => ?_, fun c25 => ?_⟩
    · exact h _ (Zr.rf)
    · have hv26 : vp_in a1 (tl (k0 + 1)) := (by first | exact vp_a (by assumption) (by assumption) (tl_s _) | exact vp_b (by assumption) (by assumption) (tl_s _) | exact vp_a (n := 4) (by assumption) (by assumption) (by decide) | exact vp_b (n := 4) (by assumption) (by assumption) (by decide) | exact vp_c (by assumption) (by assumption))
      refine ⟨hv26, ?_⟩
      exact h _ (Zr.st (Zr.rf) (by rw [show kd (k0 + 1) = 9 from (ka_6 hk0)] <;> rfl) hv)
set_option maxHeartbeats 2000000 in
theorem z_X3_numberOf (k2 : Nat) (hk2 : kd k2 = 5) (μ : TMem) (a1 : Int32) {Q : Int32 → TMem → Prop} (h : ∀ (r : Int32) (μ9 : TMem), Zr 2 μ μ9 → Q r μ9) : wp_X3_numberOf k2 μ a1 Q := by
  show wp_X6_find 16 μ a1 (μ k2 1) (fun (r1 : Int32) => (¬ r1 = (-1 : Int32) → (Q r1 μ)) ∧ (r1 = (-1 : Int32) → (((μ k2 1) < (32 : Int32) → (wp_X6_put 16 μ (μ k2 1) a1 (fun (μ6 : TMem) => Q (((tms μ6 k2 1 ((μ6 k2 1) + (1 : Int32))) k2 1) - (1 : Int32)) (tms μ6 k2 1 ((μ6 k2 1) + (1 : Int32)))))) ∧ (¬ (μ k2 1) < (32 : Int32) → (Q r1 μ)))))
  refine f_X6_find 16 rfl μ a1 (μ k2 1) (fun r1 => ?_)
  refine ⟨fun c40 => ?_, fun c41 => ?_⟩
  · exact h _ _ (Zr.rf)
  · refine ⟨fun c42 => ?_, fun c43 => ?_⟩
    · refine z_X6_put 16 rfl μ (μ k2 1) a1 (Or.inl (by decide)) (fun μ6 hf44 => ?_)
      exact h _ _ (Zr.st (Zr.trans (Zr.rf) (Zr.up (by decide) hf44)) (by rw [show kd k2 = 5 from hk2] <;> rfl) (Or.inl (ne43 (K := 5) hk2 (by decide))))
    · exact h _ _ (Zr.rf)
set_option maxHeartbeats 2000000 in
theorem zl_wpl_X3_makeOneWay_78 (μ0 : TMem) (k1 : Nat) (hk1 : kd k1 = 2) (k2 : Nat) (hk2 : kd k2 = 5) (v15 : Int32) (v16 : Int32) {K122 : TMem → Prop} {Q : Int32 → TMem → Prop} (hK122 : ∀ (u0 : TMem), Zr 2 μ0 u0 → K122 u0) (h : ∀ (r : Int32) (μ9 : TMem), isB r → Zr 2 μ0 μ9 → Q r μ9) : ∀ (n : Nat) (v14 : Int32) (μ17 : TMem), (((3 : Int32)).toInt - (v14).toInt).toNat < n → 0 ≤ (v14).toInt → Zr 2 μ0 μ17 → wpl_X3_makeOneWay_78 k1 k2 v15 v16 K122 Q n v14 μ17 := by
  intro n
  induction n with
  | zero => intro v14 μ17 hm; exact absurd hm (Nat.not_lt_zero _)
  | succ n ih =>
    intro v14 μ17 hm hi hF
    show ((3 : Int32) ≤ v14 → (K122 μ17)) ∧ (¬ (3 : Int32) ≤ v14 → (wp_X2_reach k1 μ17 v15 v14 (fun (r19 : Int32) => wp_X3_numberOf k2 μ17 r19 (fun (r23 : Int32) (μ22 : TMem) => (¬ r23 = (-1 : Int32) → (wp_X7_put k2 μ22 v16 v14 r23 (fun (μ25 : TMem) => wpl_X3_makeOneWay_78 k1 k2 v15 v16 K122 Q n (v14 + (1 : Int32)) μ25))) ∧ (r23 = (-1 : Int32) → (Q (0 : Int32) μ22))))))
    refine ⟨fun c_ex => ?_, fun c_in => ?_⟩
    · exact hK122 μ17 hF
    have c_lt : ¬ ((3 : Int32)) ≤ v14 := c_in
    refine f_X2_reach k1 hk1 μ17 v15 v14 (fun r19 => ?_)
    refine z_X3_numberOf k2 hk2 μ17 r19 (fun r23 μ22 hf45 => ?_)
    refine ⟨fun c46 => ?_, fun c47 => ?_⟩
    · refine z_X7_put k2 ⟨Or.inr hk2, kd5' hk2⟩ μ22 v16 v14 r23 (fun μ25 hf48 => ?_)
      exact ih (v14 + (1 : Int32)) μ25 (lt_m c_lt (by omega)) (lt_p (by assumption) c_lt) (Zr.trans (Zr.trans hF (Zr.up (by decide) hf45)) (Zr.up (by decide) hf48))
    · exact h _ _ (by first | assumption | exact Or.inl rfl | exact Or.inr rfl | exact isB_or (by assumption) (by first | assumption | exact Or.inl rfl | exact Or.inr rfl)) (Zr.trans hF (Zr.up (by decide) hf45))
set_option maxHeartbeats 2000000 in
theorem zl_wpl_X3_makeOneWay_24 (μ0 : TMem) (k1 : Nat) (hk1 : kd k1 = 2) (k2 : Nat) (hk2 : kd k2 = 5) {Q : Int32 → TMem → Prop} (h : ∀ (r : Int32) (μ9 : TMem), isB r → Zr 2 μ0 μ9 → Q r μ9) : ∀ (n : Nat) (v3 : Int32) (μ4 : TMem), (((32 : Int32)).toInt - (v3).toInt).toNat < n → 0 ≤ (v3).toInt → Zr 2 μ0 μ4 → wpl_X3_makeOneWay_24 k1 k2 Q n v3 μ4 := by
  intro n
  induction n with
  | zero => intro v3 μ4 hm; exact absurd hm (Nat.not_lt_zero _)
  | succ n ih =>
    intro v3 μ4 hm hi hF
    show ((32 : Int32) ≤ v3 → (Q (1 : Int32) μ4)) ∧ (¬ (32 : Int32) ≤ v3 → (((μ4 k2 1) ≤ v3 → (Q (1 : Int32) μ4)) ∧ (¬ (μ4 k2 1) ≤ v3 → (wp_X6_at 16 μ4 v3 (fun (r7 : Int32) => ∀ J10 : Int32 → Prop, (∀ (j11 : Int32), (wp_X9_withOrWithout (μ4 k2 2) v3 j11 (fun (r12 : Int32) => ∃ n12x, wpl_X3_makeOneWay_78 k1 k2 r7 v3 (fun (μ27 : TMem) => wpl_X3_makeOneWay_24 k1 k2 Q n (v3 + (1 : Int32)) μ27) Q n12x (0 : Int32) (tms μ4 k2 2 r12))) → J10 j11) → (((r7 &&& (μ4 k1 2)) = 0 → (J10 (0 : Int32))) ∧ (¬ (r7 &&& (μ4 k1 2)) = 0 → (J10 (1 : Int32)))))))))
    refine ⟨fun c_ex => ?_, fun c_in => ?_⟩
    · exact h _ _ (by first | assumption | exact Or.inl rfl | exact Or.inr rfl | exact isB_or (by assumption) (by first | assumption | exact Or.inl rfl | exact Or.inr rfl)) hF
    have c_lt : ¬ ((32 : Int32)) ≤ v3 := c_in
    refine ⟨fun c49 => ?_, fun c50 => ?_⟩
    · exact h _ _ (by first | assumption | exact Or.inl rfl | exact Or.inr rfl | exact isB_or (by assumption) (by first | assumption | exact Or.inl rfl | exact Or.inr rfl)) hF
    · refine f_X6_at 16 rfl μ4 v3 (fun r7 => ?_)
      intro J10 hJ10
      refine ⟨fun c51 => ?_, fun c52 => ?_⟩
      · refine hJ10 (0 : Int32) ?_
        refine f_X9_withOrWithout (μ4 k2 2) v3 (0 : Int32) (fun r12 => ?_)
        refine ⟨_, zl_wpl_X3_makeOneWay_78 (tms μ4 k2 2 r12) k1 hk1 k2 hk2 r7 v3 ?_ (fun r9 μ9 b9 f9 => h r9 μ9 b9 (Zr.trans (Zr.st hF (by rw [show kd k2 = 5 from hk2] <;> rfl) (Or.inl (ne43 (K := 5) hk2 (by decide)))) (Zr.up (by decide) f9))) _ (0 : Int32) (tms μ4 k2 2 r12) (Nat.lt_succ_self _) (by first | decide | omega) Zr.rf⟩
        · intro μ27 hf53
          exact ih (v3 + (1 : Int32)) μ27 (lt_m c_lt (by omega)) (lt_p (by assumption) c_lt) (Zr.trans (Zr.st hF (by rw [show kd k2 = 5 from hk2] <;> rfl) (Or.inl (ne43 (K := 5) hk2 (by decide)))) (Zr.up (by decide) hf53))
      · refine hJ10 (1 : Int32) ?_
        refine f_X9_withOrWithout (μ4 k2 2) v3 (1 : Int32) (fun r12 => ?_)
        refine ⟨_, zl_wpl_X3_makeOneWay_78 (tms μ4 k2 2 r12) k1 hk1 k2 hk2 r7 v3 ?_ (fun r9 μ9 b9 f9 => h r9 μ9 b9 (Zr.trans (Zr.st hF (by rw [show kd k2 = 5 from hk2] <;> rfl) (Or.inl (ne43 (K := 5) hk2 (by decide)))) (Zr.up (by decide) f9))) _ (0 : Int32) (tms μ4 k2 2 r12) (Nat.lt_succ_self _) (by first | decide | omega) Zr.rf⟩
        · intro μ27 hf54
          exact ih (v3 + (1 : Int32)) μ27 (lt_m c_lt (by omega)) (lt_p (by assumption) c_lt) (Zr.trans (Zr.st hF (by rw [show kd k2 = 5 from hk2] <;> rfl) (Or.inl (ne43 (K := 5) hk2 (by decide)))) (Zr.up (by decide) hf54))
set_option maxHeartbeats 2000000 in
theorem z_X3_makeOneWay (k1 : Nat) (hk1 : kd k1 = 2) (k2 : Nat) (hk2 : kd k2 = 5) (μ : TMem)  {Q : Int32 → TMem → Prop} (h : ∀ (r : Int32) (μ9 : TMem), isB r → Zr 2 μ μ9 → Q r μ9) : wp_X3_makeOneWay k1 k2 μ Q := by
  show wp_X6_put 16 μ (0 : Int32) (μ k1 3) (fun (μ1 : TMem) => ∃ n1x, wpl_X3_makeOneWay_24 k1 k2 Q n1x (0 : Int32) (tms (tms μ1 k2 1 (1 : Int32)) k2 2 (0 : Int32)))
  refine z_X6_put 16 rfl μ (0 : Int32) (μ k1 3) (Or.inl (by decide)) (fun μ1 hf55 => ?_)
  refine ⟨_, zl_wpl_X3_makeOneWay_24 (tms (tms μ1 k2 1 (1 : Int32)) k2 2 (0 : Int32)) k1 hk1 k2 hk2 (fun r9 μ9 b9 f9 => h r9 μ9 b9 (Zr.trans (Zr.st (Zr.st (Zr.trans (Zr.rf) (Zr.up (by decide) hf55)) (by rw [show kd k2 = 5 from hk2] <;> rfl) (Or.inl (ne43 (K := 5) hk2 (by decide)))) (by rw [show kd k2 = 5 from hk2] <;> rfl) (Or.inl (ne43 (K := 5) hk2 (by decide)))) (Zr.up (by decide) f9))) _ (0 : Int32) (tms (tms μ1 k2 1 (1 : Int32)) k2 2 (0 : Int32)) (Nat.lt_succ_self _) (by first | decide | omega) Zr.rf⟩
set_option maxHeartbeats 2000000 in
theorem zl_wpl_X6_fill_2 (μ0 : TMem) (k0 : Nat) (hk0 : kd k0 = 6) (v3 : Int32) {Q : TMem → Prop} (h : ∀ μ9 : TMem, Zr 0 μ0 μ9 → Q μ9) (hv : k0 + 1 ≠ 43) : ∀ (n : Nat) (v2 : Int32) (μ4 : TMem), (((nI (tl (k0 + 1)))).toInt - (v2).toInt).toNat < n → 0 ≤ (v2).toInt → Zr 0 μ0 μ4 → wpl_X6_fill_2 k0 v3 Q n v2 μ4 := by
  intro n
  induction n with
  | zero => intro v2 μ4 hm; exact absurd hm (Nat.not_lt_zero _)
  | succ n ih =>
    intro v2 μ4 hm hi hF
    show ((nI (tl (k0 + 1))) ≤ v2 → (Q μ4)) ∧ (¬ (nI (tl (k0 + 1))) ≤ v2 → (vp_in v2 (tl (k0 + 1)) ∧ (wpl_X6_fill_2 k0 v3 Q n (v2 + (1 : Int32)) (tms μ4 (k0 + 1) v2.toNatClampNeg v3))))
    refine ⟨fun c_ex => ?_, fun c_in => ?_⟩
    · exact h _ hF
    have c_lt : ¬ ((nI (tl (k0 + 1)))) ≤ v2 := c_in
    have hv56 : vp_in v2 (tl (k0 + 1)) := (by first | exact vp_a (by assumption) (by assumption) (tl_s _) | exact vp_b (by assumption) (by assumption) (tl_s _) | exact vp_a (n := 4) (by assumption) (by assumption) (by decide) | exact vp_b (n := 4) (by assumption) (by assumption) (by decide) | exact vp_c (by assumption) (by assumption))
    refine ⟨hv56, ?_⟩
    exact ih (v2 + (1 : Int32)) (tms μ4 (k0 + 1) v2.toNatClampNeg v3) (lt_m c_lt (by omega)) (lt_p (by assumption) c_lt) (Zr.st hF (by rw [show kd (k0 + 1) = 9 from (ka_6 hk0)] <;> rfl) (Or.inl hv))
set_option maxHeartbeats 2000000 in
theorem z_X6_fill (k0 : Nat) (hk0 : kd k0 = 6) (μ : TMem) (a1 : Int32) (hv : k0 + 1 ≠ 43) {Q : TMem → Prop} (h : ∀ μ9 : TMem, Zr 0 μ μ9 → Q μ9) : wp_X6_fill k0 μ a1 Q := by
  show ∃ n0x, wpl_X6_fill_2 k0 a1 Q n0x (0 : Int32) μ
  refine ⟨_, zl_wpl_X6_fill_2 μ k0 hk0 a1 (fun μ9 f9 => h μ9 (Zr.trans (Zr.rf) (Zr.up (by decide) f9))) hv _ (0 : Int32) μ (Nat.lt_succ_self _) (by first | decide | omega) Zr.rf⟩
set_option maxHeartbeats 2000000 in
theorem z_X4_add (μ : TMem) (a1 : Int32) (a2 : Int32) (a3 : Int32) (a4 : Int32) (hv : rng a4) {Q : TMem → Prop} (h : ∀ μ9 : TMem, Zr 1 μ μ9 → Q μ9) : wp_X4_add μ a1 a2 a3 a4 Q := by
  show wp_X6_put 36 μ (μ 35 8) a1 (fun (μ1 : TMem) => wp_X6_put 38 μ1 (μ1 35 8) a2 (fun (μ2 : TMem) => wp_X6_put 40 μ2 (μ2 35 8) a3 (fun (μ3 : TMem) => wp_X6_put 42 μ3 (μ3 35 8) a4 (fun (μ4 : TMem) => wp_X6_put 46 μ4 ((a1 * (32 : Int32)) + a2) (μ4 35 8) (fun (μ5 : TMem) => (¬ (μ5 35 9) = (-1 : Int32) → (Q (tms μ5 35 8 ((μ5 35 8) + (1 : Int32))))) ∧ ((μ5 35 9) = (-1 : Int32) → (wp_X4_isGoal μ5 (μ5 35 8) (3 : Int32) (fun (r7 : Int32) => (r7 = 0 → (Q (tms μ5 35 8 ((μ5 35 8) + (1 : Int32))))) ∧ (¬ r7 = 0 → (Q (tms (tms μ5 35 9 (μ5 35 8)) 35 8 (((tms μ5 35 9 (μ5 35 8)) 35 8) + (1 : Int32)))))))))))))
  refine z_X6_put 36 rfl μ (μ 35 8) a1 (Or.inl (by decide)) (fun μ1 hf79 => ?_)
  refine z_X6_put 38 rfl μ1 (μ1 35 8) a2 (Or.inl (by decide)) (fun μ2 hf80 => ?_)
  refine z_X6_put 40 rfl μ2 (μ2 35 8) a3 (Or.inl (by decide)) (fun μ3 hf81 => ?_)
  refine z_X6_put 42 rfl μ3 (μ3 35 8) a4 (Or.inr hv) (fun μ4 hf82 => ?_)
  refine z_X6_put 46 rfl μ4 ((a1 * (32 : Int32)) + a2) (μ4 35 8) (Or.inl (by decide)) (fun μ5 hf83 => ?_)
  refine ⟨fun c84 => ?_, fun c85 => ?_⟩
  · exact h _ (Zr.st (Zr.trans (Zr.trans (Zr.trans (Zr.trans (Zr.trans (Zr.rf) (Zr.up (by decide) hf79)) (Zr.up (by decide) hf80)) (Zr.up (by decide) hf81)) (Zr.up (by decide) hf82)) (Zr.up (by decide) hf83)) (by rw [show kd 35 = 4 from rfl] <;> rfl) (Or.inl (ne43 (K := 4) rfl (by decide))))
  · refine f_X4_isGoal μ5 (μ5 35 8) (3 : Int32) (fun r7 b86 => ?_)
    refine ⟨fun c87 => ?_, fun c88 => ?_⟩
    · exact h _ (Zr.st (Zr.trans (Zr.trans (Zr.trans (Zr.trans (Zr.trans (Zr.rf) (Zr.up (by decide) hf79)) (Zr.up (by decide) hf80)) (Zr.up (by decide) hf81)) (Zr.up (by decide) hf82)) (Zr.up (by decide) hf83)) (by rw [show kd 35 = 4 from rfl] <;> rfl) (Or.inl (ne43 (K := 4) rfl (by decide))))
    · exact h _ (Zr.st (Zr.st (Zr.trans (Zr.trans (Zr.trans (Zr.trans (Zr.trans (Zr.rf) (Zr.up (by decide) hf79)) (Zr.up (by decide) hf80)) (Zr.up (by decide) hf81)) (Zr.up (by decide) hf82)) (Zr.up (by decide) hf83)) (by rw [show kd 35 = 4 from rfl] <;> rfl) (Or.inl (ne43 (K := 4) rfl (by decide)))) (by rw [show kd 35 = 4 from rfl] <;> rfl) (Or.inl (ne43 (K := 4) rfl (by decide))))
set_option maxHeartbeats 2000000 in
theorem zl_wpl_X4_meet_63 (μ0 : TMem) (k1 : Nat) (hk1 : kd k1 = 5) (k2 : Nat) (hk2 : kd k2 = 5) (v12 : Int32) (v13 : Int32) (v14 : Int32) {K194 : TMem → Prop} {Q : Int32 → TMem → Prop} (hK194 : ∀ (u0 : TMem), Zr 1 μ0 u0 → K194 u0) (h : ∀ (r : Int32) (μ9 : TMem), isB r → Zr 1 μ0 μ9 → Q r μ9) : ∀ (n : Nat) (v11 : Int32) (μ15 : TMem), (((3 : Int32)).toInt - (v11).toInt).toNat < n → 0 ≤ (v11).toInt → Zr 1 μ0 μ15 → wpl_X4_meet_63 k1 k2 v12 v13 v14 K194 Q n v11 μ15 := by
  intro n
  induction n with
  | zero => intro v11 μ15 hm; exact absurd hm (Nat.not_lt_zero _)
  | succ n ih =>
    intro v11 μ15 hm hi hF
    show ((3 : Int32) ≤ v11 → (K194 μ15)) ∧ (¬ (3 : Int32) ≤ v11 → (((μ15 35 9) = (-1 : Int32) → (wp_X6_at 36 μ15 v12 (fun (r18 : Int32) => wp_X7_at k1 μ15 r18 v11 (fun (r21 : Int32) => wp_X6_at 38 μ15 v12 (fun (r24 : Int32) => wp_X7_at k2 μ15 r24 v11 (fun (r27 : Int32) => wp_X6_at 46 μ15 ((r21 * (32 : Int32)) + r27) (fun (r30 : Int32) => (¬ r30 = (-1 : Int32) → (wp_X6_at 46 μ15 ((r21 * (32 : Int32)) + r27) (fun (r34 : Int32) => wp_X6_put 44 μ15 ((v12 * (3 : Int32)) + v11) r34 (fun (μ37 : TMem) => wpl_X4_meet_63 k1 k2 v12 v13 v14 K194 Q n (v11 + (1 : Int32)) μ37)))) ∧ (r30 = (-1 : Int32) → (((μ15 35 8) < v13 → (wp_X4_add μ15 r21 r27 v12 v11 (fun (μ39 : TMem) => wp_X6_at 46 μ39 ((r21 * (32 : Int32)) + r27) (fun (r40 : Int32) => wp_X6_put 44 μ39 ((v12 * (3 : Int32)) + v11) r40 (fun (μ43 : TMem) => wpl_X4_meet_63 k1 k2 v12 v13 v14 K194 Q n (v11 + (1 : Int32)) μ43))))) ∧ (¬ (μ15 35 8) < v13 → (Q (0 : Int32) μ15))))))))))) ∧ (¬ (μ15 35 9) = (-1 : Int32) → ((¬ v14 = 0 → (wp_X6_at 36 μ15 v12 (fun (r45 : Int32) => wp_X7_at k1 μ15 r45 v11 (fun (r48 : Int32) => wp_X6_at 38 μ15 v12 (fun (r51 : Int32) => wp_X7_at k2 μ15 r51 v11 (fun (r54 : Int32) => wp_X6_at 46 μ15 ((r48 * (32 : Int32)) + r54) (fun (r57 : Int32) => (¬ r57 = (-1 : Int32) → (wp_X6_at 46 μ15 ((r48 * (32 : Int32)) + r54) (fun (r61 : Int32) => wp_X6_put 44 μ15 ((v12 * (3 : Int32)) + v11) r61 (fun (μ64 : TMem) => wpl_X4_meet_63 k1 k2 v12 v13 v14 K194 Q n (v11 + (1 : Int32)) μ64)))) ∧ (r57 = (-1 : Int32) → (((μ15 35 8) < v13 → (wp_X4_add μ15 r48 r54 v12 v11 (fun (μ66 : TMem) => wp_X6_at 46 μ66 ((r48 * (32 : Int32)) + r54) (fun (r67 : Int32) => wp_X6_put 44 μ66 ((v12 * (3 : Int32)) + v11) r67 (fun (μ70 : TMem) => wpl_X4_meet_63 k1 k2 v12 v13 v14 K194 Q n (v11 + (1 : Int32)) μ70))))) ∧ (¬ (μ15 35 8) < v13 → (Q (0 : Int32) μ15))))))))))) ∧ (v14 = 0 → (Q (1 : Int32) μ15))))))
    refine ⟨fun c_ex => ?_, fun c_in => ?_⟩
    · exact hK194 μ15 hF
    have c_lt : ¬ ((3 : Int32)) ≤ v11 := c_in
    refine ⟨fun c89 => ?_, fun c90 => ?_⟩
    · refine f_X6_at 36 rfl μ15 v12 (fun r18 => ?_)
      refine f_X7_at k1 (Or.inr hk1) μ15 r18 v11 (fun r21 => ?_)
      refine f_X6_at 38 rfl μ15 v12 (fun r24 => ?_)
      refine f_X7_at k2 (Or.inr hk2) μ15 r24 v11 (fun r27 => ?_)
      refine f_X6_at 46 rfl μ15 ((r21 * (32 : Int32)) + r27) (fun r30 => ?_)
      refine ⟨fun c91 => ?_, fun c92 => ?_⟩
      · refine f_X6_at 46 rfl μ15 ((r21 * (32 : Int32)) + r27) (fun r34 => ?_)
        refine z_X6_put 44 rfl μ15 ((v12 * (3 : Int32)) + v11) r34 (Or.inl (by decide)) (fun μ37 hf93 => ?_)
        exact ih (v11 + (1 : Int32)) μ37 (lt_m c_lt (by omega)) (lt_p (by assumption) c_lt) (Zr.trans hF (Zr.up (by decide) hf93))
      · refine ⟨fun c94 => ?_, fun c95 => ?_⟩
        · refine z_X4_add μ15 r21 r27 v12 v11 (rng3 hi c_lt) (fun μ39 hf96 => ?_)
          refine f_X6_at 46 rfl μ39 ((r21 * (32 : Int32)) + r27) (fun r40 => ?_)
          refine z_X6_put 44 rfl μ39 ((v12 * (3 : Int32)) + v11) r40 (Or.inl (by decide)) (fun μ43 hf97 => ?_)
          exact ih (v11 + (1 : Int32)) μ43 (lt_m c_lt (by omega)) (lt_p (by assumption) c_lt) (Zr.trans (Zr.trans hF (Zr.up (by decide) hf96)) (Zr.up (by decide) hf97))
        · exact h _ _ (by first | assumption | exact Or.inl rfl | exact Or.inr rfl | exact isB_or (by assumption) (by first | assumption | exact Or.inl rfl | exact Or.inr rfl)) hF
    · refine ⟨fun c98 => ?_, fun c99 => ?_⟩
      · refine f_X6_at 36 rfl μ15 v12 (fun r45 => ?_)
        refine f_X7_at k1 (Or.inr hk1) μ15 r45 v11 (fun r48 => ?_)
        refine f_X6_at 38 rfl μ15 v12 (fun r51 => ?_)
        refine f_X7_at k2 (Or.inr hk2) μ15 r51 v11 (fun r54 => ?_)
        refine f_X6_at 46 rfl μ15 ((r48 * (32 : Int32)) + r54) (fun r57 => ?_)
        refine ⟨fun c100 => ?_, fun c101 => ?_⟩
        · refine f_X6_at 46 rfl μ15 ((r48 * (32 : Int32)) + r54) (fun r61 => ?_)
          refine z_X6_put 44 rfl μ15 ((v12 * (3 : Int32)) + v11) r61 (Or.inl (by decide)) (fun μ64 hf102 => ?_)
          exact ih (v11 + (1 : Int32)) μ64 (lt_m c_lt (by omega)) (lt_p (by assumption) c_lt) (Zr.trans hF (Zr.up (by decide) hf102))
        · refine ⟨fun c103 => ?_, fun c104 => ?_⟩
          · refine z_X4_add μ15 r48 r54 v12 v11 (rng3 hi c_lt) (fun μ66 hf105 => ?_)
            refine f_X6_at 46 rfl μ66 ((r48 * (32 : Int32)) + r54) (fun r67 => ?_)
            refine z_X6_put 44 rfl μ66 ((v12 * (3 : Int32)) + v11) r67 (Or.inl (by decide)) (fun μ70 hf106 => ?_)
            exact ih (v11 + (1 : Int32)) μ70 (lt_m c_lt (by omega)) (lt_p (by assumption) c_lt) (Zr.trans (Zr.trans hF (Zr.up (by decide) hf105)) (Zr.up (by decide) hf106))
          · exact h _ _ (by first | assumption | exact Or.inl rfl | exact Or.inr rfl | exact isB_or (by assumption) (by first | assumption | exact Or.inl rfl | exact Or.inr rfl)) hF
      · exact h _ _ (by first | assumption | exact Or.inl rfl | exact Or.inr rfl | exact isB_or (by assumption) (by first | assumption | exact Or.inl rfl | exact Or.inr rfl)) hF
set_option maxHeartbeats 2000000 in
theorem zl_wpl_X4_meet_45 (μ0 : TMem) (k1 : Nat) (hk1 : kd k1 = 5) (k2 : Nat) (hk2 : kd k2 = 5) (v5 : Int32) (v6 : Int32) {Q : Int32 → TMem → Prop} (h : ∀ (r : Int32) (μ9 : TMem), isB r → Zr 1 μ0 μ9 → Q r μ9) : ∀ (n : Nat) (v4 : Int32) (μ7 : TMem), ((v5).toInt - (v4).toInt).toNat < n → 0 ≤ (v4).toInt → Zr 1 μ0 μ7 → wpl_X4_meet_45 k1 k2 v5 v6 Q n v4 μ7 := by
  intro n
  induction n with
  | zero => intro v4 μ7 hm; exact absurd hm (Nat.not_lt_zero _)
  | succ n ih =>
    intro v4 μ7 hm hi hF
    show (v5 ≤ v4 → (Q (1 : Int32) μ7)) ∧ (¬ v5 ≤ v4 → (((μ7 35 8) ≤ v4 → (Q (1 : Int32) μ7)) ∧ (¬ (μ7 35 8) ≤ v4 → (∃ n9x, wpl_X4_meet_63 k1 k2 v4 v5 v6 (fun (μ72 : TMem) => wpl_X4_meet_45 k1 k2 v5 v6 Q n (v4 + (1 : Int32)) μ72) Q n9x (0 : Int32) μ7))))
    refine ⟨fun c_ex => ?_, fun c_in => ?_⟩
    · exact h _ _ (by first | assumption | exact Or.inl rfl | exact Or.inr rfl | exact isB_or (by assumption) (by first | assumption | exact Or.inl rfl | exact Or.inr rfl)) hF
    have c_lt : ¬ (v5) ≤ v4 := c_in
    refine ⟨fun c107 => ?_, fun c108 => ?_⟩
    · exact h _ _ (by first | assumption | exact Or.inl rfl | exact Or.inr rfl | exact isB_or (by assumption) (by first | assumption | exact Or.inl rfl | exact Or.inr rfl)) hF
    · refine ⟨_, zl_wpl_X4_meet_63 μ7 k1 hk1 k2 hk2 v4 v5 v6 ?_ (fun r9 μ9 b9 f9 => h r9 μ9 b9 (Zr.trans hF (Zr.up (by decide) f9))) _ (0 : Int32) μ7 (Nat.lt_succ_self _) (by first | decide | omega) Zr.rf⟩
      · intro μ72 hf109
        exact ih (v4 + (1 : Int32)) μ72 (lt_m c_lt (by omega)) (lt_p (by assumption) c_lt) (Zr.trans hF (Zr.up (by decide) hf109))
set_option maxHeartbeats 2000000 in
theorem z_X4_meet (k1 : Nat) (hk1 : kd k1 = 5) (k2 : Nat) (hk2 : kd k2 = 5) (μ : TMem) (a3 : Int32) (a4 : Int32) {Q : Int32 → TMem → Prop} (h : ∀ (r : Int32) (μ9 : TMem), isB r → Zr 1 μ μ9 → Q r μ9) : wp_X4_meet k1 k2 μ a3 a4 Q := by
  show wp_X6_fill 46 μ (-1 : Int32) (fun (μ1 : TMem) => wp_X4_add (tms (tms (tms (tms μ1 35 6 (μ1 k1 2)) 35 7 ((tms μ1 35 6 (μ1 k1 2)) k2 2)) 35 8 (0 : Int32)) 35 9 (-1 : Int32)) (0 : Int32) (0 : Int32) (-1 : Int32) (-1 : Int32) (fun (μ2 : TMem) => ∃ n2x, wpl_X4_meet_45 k1 k2 a3 a4 Q n2x (0 : Int32) μ2))
  refine z_X6_fill 46 rfl μ (-1 : Int32) (by decide) (fun μ1 hf110 => ?_)
  refine z_X4_add (tms (tms (tms (tms μ1 35 6 (μ1 k1 2)) 35 7 ((tms μ1 35 6 (μ1 k1 2)) k2 2)) 35 8 (0 : Int32)) 35 9 (-1 : Int32)) (0 : Int32) (0 : Int32) (-1 : Int32) (-1 : Int32) ⟨by decide, by decide⟩ (fun μ2 hf111 => ?_)
  refine ⟨_, zl_wpl_X4_meet_45 μ2 k1 hk1 k2 hk2 a3 a4 (fun r9 μ9 b9 f9 => h r9 μ9 b9 (Zr.trans (Zr.trans (Zr.st (Zr.st (Zr.st (Zr.st (Zr.trans (Zr.rf) (Zr.up (by decide) hf110)) (by rw [show kd 35 = 4 from rfl] <;> rfl) (Or.inl (ne43 (K := 4) rfl (by decide)))) (by rw [show kd 35 = 4 from rfl] <;> rfl) (Or.inl (ne43 (K := 4) rfl (by decide)))) (by rw [show kd 35 = 4 from rfl] <;> rfl) (Or.inl (ne43 (K := 4) rfl (by decide)))) (by rw [show kd 35 = 4 from rfl] <;> rfl) (Or.inl (ne43 (K := 4) rfl (by decide)))) (Zr.up (by decide) hf111)) (Zr.up (by decide) f9))) _ (0 : Int32) μ2 (Nat.lt_succ_self _) (by first | decide | omega) Zr.rf⟩
set_option maxHeartbeats 2000000 in
theorem z_X9_meetPairs (k1 : Nat) (hk1 : kd k1 = 2) (k2 : Nat) (hk2 : kd k2 = 2) (μ : TMem) (a3 : Int32) (a4 : Int32) {Q : Int32 → TMem → Prop} (h : ∀ (r : Int32) (μ9 : TMem), isB r → Zr 2 μ μ9 → Q r μ9) : wp_X9_meetPairs k1 k2 μ a3 a4 Q := by
  show wp_X3_makeOneWay k1 51 μ (fun (r2 : Int32) (μ1 : TMem) => (r2 = 0 → (Q (0 : Int32) μ1)) ∧ (¬ r2 = 0 → (wp_X3_makeOneWay k2 53 μ1 (fun (r5 : Int32) (μ4 : TMem) => (r5 = 0 → (Q (0 : Int32) μ4)) ∧ (¬ r5 = 0 → (wp_X4_meet 51 53 μ4 a3 a4 (fun (r8 : Int32) (μ7 : TMem) => (r8 = 0 → (Q (0 : Int32) μ7)) ∧ (¬ r8 = 0 → (Q (1 : Int32) μ7)))))))))
  refine z_X3_makeOneWay k1 hk1 51 rfl μ (fun r2 μ1 b112 hf113 => ?_)
  refine ⟨fun c114 => ?_, fun c115 => ?_⟩
  · exact h _ _ (by first | assumption | exact Or.inl rfl | exact Or.inr rfl | exact isB_or (by assumption) (by first | assumption | exact Or.inl rfl | exact Or.inr rfl)) (Zr.trans (Zr.rf) (Zr.up (by decide) hf113))
  · refine z_X3_makeOneWay k2 hk2 53 rfl μ1 (fun r5 μ4 b116 hf117 => ?_)
    refine ⟨fun c118 => ?_, fun c119 => ?_⟩
    · exact h _ _ (by first | assumption | exact Or.inl rfl | exact Or.inr rfl | exact isB_or (by assumption) (by first | assumption | exact Or.inl rfl | exact Or.inr rfl)) (Zr.trans (Zr.trans (Zr.rf) (Zr.up (by decide) hf113)) (Zr.up (by decide) hf117))
    · refine z_X4_meet 51 rfl 53 rfl μ4 a3 a4 (fun r8 μ7 b120 hf121 => ?_)
      refine ⟨fun c122 => ?_, fun c123 => ?_⟩
      · exact h _ _ (by first | assumption | exact Or.inl rfl | exact Or.inr rfl | exact isB_or (by assumption) (by first | assumption | exact Or.inl rfl | exact Or.inr rfl)) (Zr.trans (Zr.trans (Zr.trans (Zr.rf) (Zr.up (by decide) hf113)) (Zr.up (by decide) hf117)) (Zr.up (by decide) hf121))
      · exact h _ _ (by first | assumption | exact Or.inl rfl | exact Or.inr rfl | exact isB_or (by assumption) (by first | assumption | exact Or.inl rfl | exact Or.inr rfl)) (Zr.trans (Zr.trans (Zr.trans (Zr.rf) (Zr.up (by decide) hf113)) (Zr.up (by decide) hf117)) (Zr.up (by decide) hf121))
set_option maxHeartbeats 2000000 in
theorem zl_wpl_X5_becomePairs_44 (μ0 : TMem) (k0 : Nat) (hk0 : kd k0 = 5) (v12 : Int32) (v13 : Int32) {K70 : TMem → Prop} (hK70 : ∀ (u0 : TMem), Zr 0 μ0 u0 → K70 u0) : ∀ (n : Nat) (v11 : Int32) (μ14 : TMem), (((3 : Int32)).toInt - (v11).toInt).toNat < n → 0 ≤ (v11).toInt → Zr 0 μ0 μ14 → wpl_X5_becomePairs_44 k0 v12 v13 K70 n v11 μ14 := by
  intro n
  induction n with
  | zero => intro v11 μ14 hm; exact absurd hm (Nat.not_lt_zero _)
  | succ n ih =>
    intro v11 μ14 hm hi hF
    show ((3 : Int32) ≤ v11 → (K70 μ14)) ∧ (¬ (3 : Int32) ≤ v11 → (wp_X4_target μ14 v12 v11 (fun (r16 : Int32) => wp_X7_put k0 μ14 v12 v11 r16 (fun (μ19 : TMem) => wpl_X5_becomePairs_44 k0 v12 v13 K70 n (v11 + (1 : Int32)) μ19))))
    refine ⟨fun c_ex => ?_, fun c_in => ?_⟩
    · exact hK70 μ14 hF
    have c_lt : ¬ ((3 : Int32)) ≤ v11 := c_in
    refine f_X4_target μ14 v12 v11 (fun r16 => ?_)
    refine z_X7_put k0 ⟨Or.inr hk0, kd5' hk0⟩ μ14 v12 v11 r16 (fun μ19 hf124 => ?_)
    exact ih (v11 + (1 : Int32)) μ19 (lt_m c_lt (by omega)) (lt_p (by assumption) c_lt) (Zr.trans hF (Zr.up (by decide) hf124))
set_option maxHeartbeats 2000000 in
theorem zl_wpl_X5_becomePairs_15 (μ0 : TMem) (k0 : Nat) (hk0 : kd k0 = 5) (v3 : Int32) {Q : TMem → Prop} (h : ∀ μ9 : TMem, Zr 1 μ0 μ9 → Q μ9) : ∀ (n : Nat) (v2 : Int32) (μ4 : TMem), (((μ0 k0 1)).toInt - (v2).toInt).toNat < n → 0 ≤ (v2).toInt → Zr 1 μ0 μ4 → wpl_X5_becomePairs_15 k0 v3 Q n v2 μ4 := by
  intro n
  induction n with
  | zero => intro v2 μ4 hm; exact absurd hm (Nat.not_lt_zero _)
  | succ n ih =>
    intro v2 μ4 hm hi hF
    show ((μ4 k0 1) ≤ v2 → (Q μ4)) ∧ (¬ (μ4 k0 1) ≤ v2 → (wp_X4_isGoal μ4 v2 v3 (fun (r6 : Int32) => wp_X9_withOrWithout (μ4 k0 2) v2 r6 (fun (r9 : Int32) => ∃ n9x, wpl_X5_becomePairs_44 k0 v2 v3 (fun (μ21 : TMem) => wpl_X5_becomePairs_15 k0 v3 Q n (v2 + (1 : Int32)) μ21) n9x (0 : Int32) (tms μ4 k0 2 r9)))))
    refine ⟨fun c_ex => ?_, fun c_in => ?_⟩
    · exact h _ hF
    have e_k0_1 : μ4 k0 1 = μ0 k0 1 := hF.1.1 k0 1 (by rw [show kd k0 = 5 from hk0] <;> rfl)
    have c_lt : ¬ ((μ0 k0 1)) ≤ v2 := by
      rw [e_k0_1] at c_in
      exact c_in
    refine f_X4_isGoal μ4 v2 v3 (fun r6 b125 => ?_)
    refine f_X9_withOrWithout (μ4 k0 2) v2 r6 (fun r9 => ?_)
    refine ⟨_, zl_wpl_X5_becomePairs_44 (tms μ4 k0 2 r9) k0 hk0 v2 v3 ?_ _ (0 : Int32) (tms μ4 k0 2 r9) (Nat.lt_succ_self _) (by first | decide | omega) Zr.rf⟩
    · intro μ21 hf126
      exact ih (v2 + (1 : Int32)) μ21 (lt_m c_lt (by omega)) (lt_p (by assumption) c_lt) (Zr.trans (Zr.st hF (by rw [show kd k0 = 5 from hk0] <;> rfl) (Or.inl (ne43 (K := 5) hk0 (by decide)))) (Zr.up (by decide) hf126))
set_option maxHeartbeats 2000000 in
theorem z_X5_becomePairs (k0 : Nat) (hk0 : kd k0 = 5) (μ : TMem) (a2 : Int32) {Q : TMem → Prop} (h : ∀ μ9 : TMem, Zr 2 μ μ9 → Q μ9) : wp_X5_becomePairs k0 μ a2 Q := by
  show ∃ n0x, wpl_X5_becomePairs_15 k0 a2 Q n0x (0 : Int32) (tms (tms μ k0 1 (μ 35 8)) k0 2 (0 : Int32))
  refine ⟨_, zl_wpl_X5_becomePairs_15 (tms (tms μ k0 1 (μ 35 8)) k0 2 (0 : Int32)) k0 hk0 a2 (fun μ9 f9 => h μ9 (Zr.trans (Zr.st (Zr.st (Zr.rf) (by rw [show kd k0 = 5 from hk0] <;> rfl) (Or.inl (ne43 (K := 5) hk0 (by decide)))) (by rw [show kd k0 = 5 from hk0] <;> rfl) (Or.inl (ne43 (K := 5) hk0 (by decide)))) (Zr.up (by decide) f9))) _ (0 : Int32) (tms (tms μ k0 1 (μ 35 8)) k0 2 (0 : Int32)) (Nat.lt_succ_self _) (by first | decide | omega) Zr.rf⟩
set_option maxHeartbeats 2000000 in
theorem zl_wpl_X1_partOnce_2 (μ0 : TMem) (k1 : Nat) (hk1 : kd k1 = 5) {K30 : TMem → Prop} (hK30 : ∀ (u0 : TMem), Zr 0 μ0 u0 → K30 u0) : ∀ (n : Nat) (v2 : Int32) (μ3 : TMem), (((μ0 k1 1)).toInt - (v2).toInt).toNat < n → 0 ≤ (v2).toInt → Zr 0 μ0 μ3 → wpl_X1_partOnce_2 k1 K30 n v2 μ3 := by
  intro n
  induction n with
  | zero => intro v2 μ3 hm; exact absurd hm (Nat.not_lt_zero _)
  | succ n ih =>
    intro v2 μ3 hm hi hF
    show ((μ3 k1 1) ≤ v2 → (K30 μ3)) ∧ (¬ (μ3 k1 1) ≤ v2 → (wp_X1_codeOf k1 μ3 v2 (fun (r5 : Int32) => wp_X6_put 25 μ3 v2 r5 (fun (μ8 : TMem) => wpl_X1_partOnce_2 k1 K30 n (v2 + (1 : Int32)) μ8))))
    refine ⟨fun c_ex => ?_, fun c_in => ?_⟩
    · exact hK30 μ3 hF
    have e_k1_1 : μ3 k1 1 = μ0 k1 1 := hF.1.1 k1 1 (by rw [show kd k1 = 5 from hk1] <;> rfl)
    have c_lt : ¬ ((μ0 k1 1)) ≤ v2 := by
      rw [e_k1_1] at c_in
      exact c_in
    refine f_X1_codeOf k1 hk1 μ3 v2 (fun r5 => ?_)
    refine z_X6_put 25 rfl μ3 v2 r5 (Or.inl (by decide)) (fun μ8 hf132 => ?_)
    exact ih (v2 + (1 : Int32)) μ8 (lt_m c_lt (by omega)) (lt_p (by assumption) c_lt) (Zr.trans hF (Zr.up (by decide) hf132))
set_option maxHeartbeats 2000000 in
theorem zl_wpl_X1_partOnce_34 (μ0 : TMem) (k1 : Nat) (hk1 : kd k1 = 5) {Q : Int32 → TMem → Prop} (h : ∀ (r : Int32) (μ9 : TMem), isB r → Zr 0 μ0 μ9 → Q r μ9) : ∀ (n : Nat) (v12 : Int32) (v13 : Int32) (μ14 : TMem), (((μ0 k1 1)).toInt - (v12).toInt).toNat < n → 0 ≤ (v12).toInt → isB v13 → Zr 0 μ0 μ14 → wpl_X1_partOnce_34 k1 Q n v12 v13 μ14 := by
  intro n
  induction n with
  | zero => intro v12 v13 μ14 hm; exact absurd hm (Nat.not_lt_zero _)
  | succ n ih =>
    intro v12 v13 μ14 hm hi bv13 hF
    show ((μ14 k1 1) ≤ v12 → (isB v13 ∧ Q v13 μ14)) ∧ (¬ (μ14 k1 1) ≤ v12 → (wp_X6_at 25 μ14 v12 (fun (r17 : Int32) => wp_X6_find 25 μ14 r17 (μ14 k1 1) (fun (r20 : Int32) => wp_X6_at 23 μ14 v12 (fun (r23 : Int32) => ∀ J26 : Int32 → Prop, (∀ (j27 : Int32), (wp_X6_put 23 μ14 v12 r20 (fun (μ28 : TMem) => wpl_X1_partOnce_34 k1 Q n (v12 + (1 : Int32)) (v13 ||| j27) μ28)) → J26 j27) → ((r20 = r23 → (J26 (0 : Int32))) ∧ (¬ r20 = r23 → (J26 (1 : Int32)))))))))
    refine ⟨fun c_ex => ?_, fun c_in => ?_⟩
    · refine ⟨(by first | assumption | exact Or.inl rfl | exact Or.inr rfl | exact isB_or (by assumption) (by first | assumption | exact Or.inl rfl | exact Or.inr rfl)), ?_⟩
      exact h _ _ (by first | assumption | exact Or.inl rfl | exact Or.inr rfl | exact isB_or (by assumption) (by first | assumption | exact Or.inl rfl | exact Or.inr rfl)) hF
    have e_k1_1 : μ14 k1 1 = μ0 k1 1 := hF.1.1 k1 1 (by rw [show kd k1 = 5 from hk1] <;> rfl)
    have c_lt : ¬ ((μ0 k1 1)) ≤ v12 := by
      rw [e_k1_1] at c_in
      exact c_in
    refine f_X6_at 25 rfl μ14 v12 (fun r17 => ?_)
    refine f_X6_find 25 rfl μ14 r17 (μ14 k1 1) (fun r20 => ?_)
    refine f_X6_at 23 rfl μ14 v12 (fun r23 => ?_)
    intro J26 hJ26
    refine ⟨fun c133 => ?_, fun c134 => ?_⟩
    · refine hJ26 (0 : Int32) ?_
      refine z_X6_put 23 rfl μ14 v12 r20 (Or.inl (by decide)) (fun μ28 hf135 => ?_)
      exact ih (v12 + (1 : Int32)) (v13 ||| (0 : Int32)) μ28 (lt_m c_lt (by omega)) (lt_p (by assumption) c_lt) (by first | assumption | exact Or.inl rfl | exact Or.inr rfl | exact isB_or (by assumption) (by first | assumption | exact Or.inl rfl | exact Or.inr rfl)) (Zr.trans hF (Zr.up (by decide) hf135))
    · refine hJ26 (1 : Int32) ?_
      refine z_X6_put 23 rfl μ14 v12 r20 (Or.inl (by decide)) (fun μ28 hf136 => ?_)
      exact ih (v12 + (1 : Int32)) (v13 ||| (1 : Int32)) μ28 (lt_m c_lt (by omega)) (lt_p (by assumption) c_lt) (by first | assumption | exact Or.inl rfl | exact Or.inr rfl | exact isB_or (by assumption) (by first | assumption | exact Or.inl rfl | exact Or.inr rfl)) (Zr.trans hF (Zr.up (by decide) hf136))
set_option maxHeartbeats 2000000 in
theorem z_X1_partOnce (k1 : Nat) (hk1 : kd k1 = 5) (μ : TMem)  {Q : Int32 → TMem → Prop} (h : ∀ (r : Int32) (μ9 : TMem), isB r → Zr 0 μ μ9 → Q r μ9) : wp_X1_partOnce k1 μ Q := by
  show ∃ n0x, wpl_X1_partOnce_2 k1 (fun (μ10 : TMem) => ∃ n10x, wpl_X1_partOnce_34 k1 Q n10x (0 : Int32) (0 : Int32) μ10) n0x (0 : Int32) μ
  refine ⟨_, zl_wpl_X1_partOnce_2 μ k1 hk1 ?_ _ (0 : Int32) μ (Nat.lt_succ_self _) (by first | decide | omega) Zr.rf⟩
  · intro μ10 hf137
    refine ⟨_, zl_wpl_X1_partOnce_34 μ10 k1 hk1 (fun r9 μ9 b9 f9 => h r9 μ9 b9 (Zr.trans (Zr.trans (Zr.rf) (Zr.up (by decide) hf137)) (Zr.up (by decide) f9))) _ (0 : Int32) (0 : Int32) μ10 (Nat.lt_succ_self _) (by first | decide | omega) (by first | assumption | exact Or.inl rfl | exact Or.inr rfl | exact isB_or (by assumption) (by first | assumption | exact Or.inl rfl | exact Or.inr rfl)) Zr.rf⟩
set_option maxHeartbeats 2000000 in
theorem zl_wpl_X1_findByParting_2 (μ0 : TMem) (k1 : Nat) (hk1 : kd k1 = 5) {K29 : TMem → Prop} (hK29 : ∀ (u0 : TMem), Zr 0 μ0 u0 → K29 u0) : ∀ (n : Nat) (v2 : Int32) (μ3 : TMem), (((μ0 k1 1)).toInt - (v2).toInt).toNat < n → 0 ≤ (v2).toInt → Zr 0 μ0 μ3 → wpl_X1_findByParting_2 k1 K29 n v2 μ3 := by
  intro n
  induction n with
  | zero => intro v2 μ3 hm; exact absurd hm (Nat.not_lt_zero _)
  | succ n ih =>
    intro v2 μ3 hm hi hF
    show ((μ3 k1 1) ≤ v2 → (K29 μ3)) ∧ (¬ (μ3 k1 1) ≤ v2 → (wp_X1_firstOfGoalness k1 μ3 v2 (fun (r5 : Int32) => wp_X6_put 23 μ3 v2 r5 (fun (μ8 : TMem) => wpl_X1_findByParting_2 k1 K29 n (v2 + (1 : Int32)) μ8))))
    refine ⟨fun c_ex => ?_, fun c_in => ?_⟩
    · exact hK29 μ3 hF
    have e_k1_1 : μ3 k1 1 = μ0 k1 1 := hF.1.1 k1 1 (by rw [show kd k1 = 5 from hk1] <;> rfl)
    have c_lt : ¬ ((μ0 k1 1)) ≤ v2 := by
      rw [e_k1_1] at c_in
      exact c_in
    refine f_X1_firstOfGoalness k1 hk1 μ3 v2 (fun r5 => ?_)
    refine z_X6_put 23 rfl μ3 v2 r5 (Or.inl (by decide)) (fun μ8 hf138 => ?_)
    exact ih (v2 + (1 : Int32)) μ8 (lt_m c_lt (by omega)) (lt_p (by assumption) c_lt) (Zr.trans hF (Zr.up (by decide) hf138))
set_option maxHeartbeats 2000000 in
theorem zl_wpl_X1_findByParting_33 (μ0 : TMem) (k1 : Nat) (hk1 : kd k1 = 5) {Q : TMem → Prop} (h : ∀ μ9 : TMem, Zr 0 μ0 μ9 → Q μ9) : ∀ (n : Nat) (v12 : Int32) (v13 : Int32) (μ14 : TMem), (((32 : Int32)).toInt - (v12).toInt).toNat < n → 0 ≤ (v12).toInt → Zr 0 μ0 μ14 → wpl_X1_findByParting_33 k1 Q n v12 v13 μ14 := by
  intro n
  induction n with
  | zero => intro v12 v13 μ14 hm; exact absurd hm (Nat.not_lt_zero _)
  | succ n ih =>
    intro v12 v13 μ14 hm hi hF
    show ((32 : Int32) ≤ v12 → (Q μ14)) ∧ (¬ (32 : Int32) ≤ v12 → ((v13 = 0 → (Q μ14)) ∧ (¬ v13 = 0 → (wp_X1_partOnce k1 μ14 (fun (r18 : Int32) (μ17 : TMem) => wpl_X1_findByParting_33 k1 Q n (v12 + (1 : Int32)) r18 μ17)))))
    refine ⟨fun c_ex => ?_, fun c_in => ?_⟩
    · exact h _ hF
    have c_lt : ¬ ((32 : Int32)) ≤ v12 := c_in
    refine ⟨fun c139 => ?_, fun c140 => ?_⟩
    · exact h _ hF
    · refine z_X1_partOnce k1 hk1 μ14 (fun r18 μ17 b141 hf142 => ?_)
      exact ih (v12 + (1 : Int32)) r18 μ17 (lt_m c_lt (by omega)) (lt_p (by assumption) c_lt) (Zr.trans hF (Zr.up (by decide) hf142))
set_option maxHeartbeats 2000000 in
theorem z_X1_findByParting (k1 : Nat) (hk1 : kd k1 = 5) (μ : TMem)  {Q : TMem → Prop} (h : ∀ μ9 : TMem, Zr 0 μ μ9 → Q μ9) : wp_X1_findByParting k1 μ Q := by
  show ∃ n0x, wpl_X1_findByParting_2 k1 (fun (μ10 : TMem) => ∃ n10x, wpl_X1_findByParting_33 k1 Q n10x (0 : Int32) (1 : Int32) μ10) n0x (0 : Int32) μ
  refine ⟨_, zl_wpl_X1_findByParting_2 μ k1 hk1 ?_ _ (0 : Int32) μ (Nat.lt_succ_self _) (by first | decide | omega) Zr.rf⟩
  · intro μ10 hf143
    refine ⟨_, zl_wpl_X1_findByParting_33 μ10 k1 hk1 (fun μ9 f9 => h μ9 (Zr.trans (Zr.trans (Zr.rf) (Zr.up (by decide) hf143)) (Zr.up (by decide) f9))) _ (0 : Int32) (1 : Int32) μ10 (Nat.lt_succ_self _) (by first | decide | omega) Zr.rf⟩
set_option maxHeartbeats 2000000 in
theorem z_X3_groupNumber (k2 : Nat) (hk2 : kd k2 = 5) (μ : TMem) (a1 : Int32) {Q : Int32 → TMem → Prop} (h : ∀ (r : Int32) (μ9 : TMem), Zr 2 μ μ9 → Q r μ9) : wp_X3_groupNumber k2 μ a1 Q := by
  show wp_X1_partOf μ a1 (fun (r1 : Int32) => wp_X6_at 20 μ r1 (fun (r4 : Int32) => ∀ J7 : TMem → Prop, (∀ (μ8 : TMem), (wp_X6_at 20 μ8 r1 (fun (r9 : Int32) => Q r9 μ8)) → J7 μ8) → ((¬ r4 = (-1 : Int32) → (wp_X6_at 20 μ r1 (fun (r13 : Int32) => Q r13 μ))) ∧ (r4 = (-1 : Int32) → (wp_X6_put 20 μ r1 (μ k2 1) (fun (μ16 : TMem) => wp_X6_put 18 μ16 (μ16 k2 1) a1 (fun (μ17 : TMem) => J7 (tms μ17 k2 1 ((μ17 k2 1) + (1 : Int32))))))))))
  refine f_X1_partOf μ a1 (fun r1 => ?_)
  refine f_X6_at 20 rfl μ r1 (fun r4 => ?_)
  intro J7 hJ7
  refine ⟨fun c144 => ?_, fun c145 => ?_⟩
  · refine f_X6_at 20 rfl μ r1 (fun r13 => ?_)
    exact h _ _ (Zr.rf)
  · refine z_X6_put 20 rfl μ r1 (μ k2 1) (Or.inl (by decide)) (fun μ16 hf146 => ?_)
    refine z_X6_put 18 rfl μ16 (μ16 k2 1) a1 (Or.inl (by decide)) (fun μ17 hf147 => ?_)
    refine hJ7 (tms μ17 k2 1 ((μ17 k2 1) + (1 : Int32))) ?_
    refine f_X6_at 20 rfl (tms μ17 k2 1 ((μ17 k2 1) + (1 : Int32))) r1 (fun r9 => ?_)
    exact h _ _ (Zr.st (Zr.trans (Zr.trans (Zr.rf) (Zr.up (by decide) hf146)) (Zr.up (by decide) hf147)) (by rw [show kd k2 = 5 from hk2] <;> rfl) (Or.inl (ne43 (K := 5) hk2 (by decide))))
set_option maxHeartbeats 2000000 in
theorem zl_wpl_X3_makeGroups_90 (μ0 : TMem) (k1 : Nat) (hk1 : kd k1 = 5) (k2 : Nat) (hk2 : kd k2 = 5) (v21 : Int32) (v22 : Int32) {K122 : TMem → Prop} (hK122 : ∀ (u0 : TMem), Zr 2 μ0 u0 → K122 u0) : ∀ (n : Nat) (v20 : Int32) (μ23 : TMem), (((3 : Int32)).toInt - (v20).toInt).toNat < n → 0 ≤ (v20).toInt → Zr 2 μ0 μ23 → wpl_X3_makeGroups_90 k1 k2 v21 v22 K122 n v20 μ23 := by
  intro n
  induction n with
  | zero => intro v20 μ23 hm; exact absurd hm (Nat.not_lt_zero _)
  | succ n ih =>
    intro v20 μ23 hm hi hF
    show ((3 : Int32) ≤ v20 → (K122 μ23)) ∧ (¬ (3 : Int32) ≤ v20 → (wp_X7_at k1 μ23 v21 v20 (fun (r25 : Int32) => wp_X3_groupNumber k2 μ23 r25 (fun (r29 : Int32) (μ28 : TMem) => wp_X7_put k2 μ28 v22 v20 r29 (fun (μ30 : TMem) => wpl_X3_makeGroups_90 k1 k2 v21 v22 K122 n (v20 + (1 : Int32)) μ30)))))
    refine ⟨fun c_ex => ?_, fun c_in => ?_⟩
    · exact hK122 μ23 hF
    have c_lt : ¬ ((3 : Int32)) ≤ v20 := c_in
    refine f_X7_at k1 (Or.inr hk1) μ23 v21 v20 (fun r25 => ?_)
    refine z_X3_groupNumber k2 hk2 μ23 r25 (fun r29 μ28 hf148 => ?_)
    refine z_X7_put k2 ⟨Or.inr hk2, kd5' hk2⟩ μ28 v22 v20 r29 (fun μ30 hf149 => ?_)
    exact ih (v20 + (1 : Int32)) μ30 (lt_m c_lt (by omega)) (lt_p (by assumption) c_lt) (Zr.trans (Zr.trans hF (Zr.up (by decide) hf148)) (Zr.up (by decide) hf149))
set_option maxHeartbeats 2000000 in
theorem zl_wpl_X3_makeGroups_45 (μ0 : TMem) (k1 : Nat) (hk1 : kd k1 = 5) (k2 : Nat) (hk2 : kd k2 = 5) {Q : TMem → Prop} (h : ∀ μ9 : TMem, Zr 2 μ0 μ9 → Q μ9) : ∀ (n : Nat) (v8 : Int32) (μ9 : TMem), (((32 : Int32)).toInt - (v8).toInt).toNat < n → 0 ≤ (v8).toInt → Zr 2 μ0 μ9 → wpl_X3_makeGroups_45 k1 k2 Q n v8 μ9 := by
  intro n
  induction n with
  | zero => intro v8 μ9 hm; exact absurd hm (Nat.not_lt_zero _)
  | succ n ih =>
    intro v8 μ9 hm hi hF
    show ((32 : Int32) ≤ v8 → (Q μ9)) ∧ (¬ (32 : Int32) ≤ v8 → (((μ9 k2 1) ≤ v8 → (Q μ9)) ∧ (¬ (μ9 k2 1) ≤ v8 → (wp_X6_at 18 μ9 v8 (fun (r12 : Int32) => wp_X5_isGoal k1 μ9 r12 (fun (r15 : Int32) => wp_X9_withOrWithout (μ9 k2 2) v8 r15 (fun (r18 : Int32) => ∃ n18x, wpl_X3_makeGroups_90 k1 k2 r12 v8 (fun (μ32 : TMem) => wpl_X3_makeGroups_45 k1 k2 Q n (v8 + (1 : Int32)) μ32) n18x (0 : Int32) (tms μ9 k2 2 r18))))))))
    refine ⟨fun c_ex => ?_, fun c_in => ?_⟩
    · exact h _ hF
    have c_lt : ¬ ((32 : Int32)) ≤ v8 := c_in
    refine ⟨fun c150 => ?_, fun c151 => ?_⟩
    · exact h _ hF
    · refine f_X6_at 18 rfl μ9 v8 (fun r12 => ?_)
      refine f_X5_isGoal k1 hk1 μ9 r12 (fun r15 b152 => ?_)
      refine f_X9_withOrWithout (μ9 k2 2) v8 r15 (fun r18 => ?_)
      refine ⟨_, zl_wpl_X3_makeGroups_90 (tms μ9 k2 2 r18) k1 hk1 k2 hk2 r12 v8 ?_ _ (0 : Int32) (tms μ9 k2 2 r18) (Nat.lt_succ_self _) (by first | decide | omega) Zr.rf⟩
      · intro μ32 hf153
        exact ih (v8 + (1 : Int32)) μ32 (lt_m c_lt (by omega)) (lt_p (by assumption) c_lt) (Zr.trans (Zr.st hF (by rw [show kd k2 = 5 from hk2] <;> rfl) (Or.inl (ne43 (K := 5) hk2 (by decide)))) (Zr.up (by decide) hf153))
set_option maxHeartbeats 2000000 in
theorem z_X3_makeGroups (k1 : Nat) (hk1 : kd k1 = 5) (k2 : Nat) (hk2 : kd k2 = 5) (μ : TMem)  {Q : TMem → Prop} (h : ∀ μ9 : TMem, Zr 2 μ μ9 → Q μ9) : wp_X3_makeGroups k1 k2 μ Q := by
  show wp_X6_fill 20 μ (-1 : Int32) (fun (μ1 : TMem) => wp_X1_partOf μ1 (0 : Int32) (fun (r2 : Int32) => wp_X6_put 20 μ1 r2 (0 : Int32) (fun (μ5 : TMem) => wp_X6_put 18 μ5 (0 : Int32) (0 : Int32) (fun (μ6 : TMem) => ∃ n6x, wpl_X3_makeGroups_45 k1 k2 Q n6x (0 : Int32) (tms (tms μ6 k2 1 (1 : Int32)) k2 2 (0 : Int32))))))
  refine z_X6_fill 20 rfl μ (-1 : Int32) (by decide) (fun μ1 hf154 => ?_)
  refine f_X1_partOf μ1 (0 : Int32) (fun r2 => ?_)
  refine z_X6_put 20 rfl μ1 r2 (0 : Int32) (Or.inl (by decide)) (fun μ5 hf155 => ?_)
  refine z_X6_put 18 rfl μ5 (0 : Int32) (0 : Int32) (Or.inl (by decide)) (fun μ6 hf156 => ?_)
  refine ⟨_, zl_wpl_X3_makeGroups_45 (tms (tms μ6 k2 1 (1 : Int32)) k2 2 (0 : Int32)) k1 hk1 k2 hk2 (fun μ9 f9 => h μ9 (Zr.trans (Zr.st (Zr.st (Zr.trans (Zr.trans (Zr.trans (Zr.rf) (Zr.up (by decide) hf154)) (Zr.up (by decide) hf155)) (Zr.up (by decide) hf156)) (by rw [show kd k2 = 5 from hk2] <;> rfl) (Or.inl (ne43 (K := 5) hk2 (by decide)))) (by rw [show kd k2 = 5 from hk2] <;> rfl) (Or.inl (ne43 (K := 5) hk2 (by decide)))) (Zr.up (by decide) f9))) _ (0 : Int32) (tms (tms μ6 k2 1 (1 : Int32)) k2 2 (0 : Int32)) (Nat.lt_succ_self _) (by first | decide | omega) Zr.rf⟩
set_option maxHeartbeats 2000000 in
theorem z_X3_lessen (k1 : Nat) (hk1 : kd k1 = 5) (k2 : Nat) (hk2 : kd k2 = 5) (μ : TMem)  {Q : TMem → Prop} (h : ∀ μ9 : TMem, Zr 2 μ μ9 → Q μ9) : wp_X3_lessen k1 k2 μ Q := by
  show wp_X1_findByParting k1 μ (fun (μ1 : TMem) => wp_X3_makeGroups k1 k2 μ1 (fun (μ2 : TMem) => Q μ2))
  refine z_X1_findByParting k1 hk1 μ (fun μ1 hf157 => ?_)
  refine z_X3_makeGroups k1 hk1 k2 hk2 μ1 (fun μ2 hf158 => ?_)
  exact h _ (Zr.trans (Zr.trans (Zr.rf) (Zr.up (by decide) hf157)) (Zr.up (by decide) hf158))
set_option maxHeartbeats 2000000 in
theorem z_X9_putTogether (k1 : Nat) (hk1 : kd k1 = 2) (k2 : Nat) (hk2 : kd k2 = 2) (μ : TMem) (a3 : Int32) {Q : Int32 → TMem → Prop} (h : ∀ (r : Int32) (μ9 : TMem), isB r → Zr 2 μ μ9 → Q r μ9) : wp_X9_putTogether k1 k2 μ a3 Q := by
  show wp_X9_meetPairs k1 k2 μ (32 : Int32) (1 : Int32) (fun (r2 : Int32) (μ1 : TMem) => (¬ r2 = 0 → (wp_X5_becomePairs 55 μ1 a3 (fun (μ4 : TMem) => wp_X3_lessen 55 57 μ4 (fun (μ5 : TMem) => Q (1 : Int32) μ5)))) ∧ (r2 = 0 → (Q (0 : Int32) μ1)))
  refine z_X9_meetPairs k1 hk1 k2 hk2 μ (32 : Int32) (1 : Int32) (fun r2 μ1 b159 hf160 => ?_)
  refine ⟨fun c161 => ?_, fun c162 => ?_⟩
  · refine z_X5_becomePairs 55 rfl μ1 a3 (fun μ4 hf163 => ?_)
    refine z_X3_lessen 55 rfl 57 rfl μ4 (fun μ5 hf164 => ?_)
    exact h _ _ (by first | assumption | exact Or.inl rfl | exact Or.inr rfl | exact isB_or (by assumption) (by first | assumption | exact Or.inl rfl | exact Or.inr rfl)) (Zr.trans (Zr.trans (Zr.trans (Zr.rf) (Zr.up (by decide) hf160)) (Zr.up (by decide) hf163)) (Zr.up (by decide) hf164))
  · exact h _ _ (by first | assumption | exact Or.inl rfl | exact Or.inr rfl | exact isB_or (by assumption) (by first | assumption | exact Or.inl rfl | exact Or.inr rfl)) (Zr.trans (Zr.rf) (Zr.up (by decide) hf160))
set_option maxHeartbeats 2000000 in
theorem zl_wpl_X1_tellFurther_15 (μ0 : TMem) (k1 : Nat) (hk1 : kd k1 = 5) (v9 : Int32) {K99 : Int32 → TMem → Prop} (hK99 : ∀ (u0 : Int32) (u1 : TMem), isB u0 → Zr 0 μ0 u1 → K99 u0 u1) : ∀ (n : Nat) (v8 : Int32) (v10 : Int32) (μ11 : TMem), ((v9).toInt - (v8).toInt).toNat < n → 0 ≤ (v8).toInt → isB v10 → Zr 0 μ0 μ11 → wpl_X1_tellFurther_15 k1 v9 K99 n v8 v10 μ11 := by
  intro n
  induction n with
  | zero => intro v8 v10 μ11 hm; exact absurd hm (Nat.not_lt_zero _)
  | succ n ih =>
    intro v8 v10 μ11 hm hi bv10 hF
    show (v9 ≤ v8 → (K99 v10 μ11)) ∧ (¬ v9 ≤ v8 → (wp_X6_at 27 μ11 v9 (fun (r13 : Int32) => wp_X9_isIn r13 v8 (fun (r16 : Int32) => (¬ r16 = 0 → (wpl_X1_tellFurther_15 k1 v9 K99 n (v8 + (1 : Int32)) v10 μ11)) ∧ (r16 = 0 → (wp_X1_isLeadingToUnlike k1 μ11 v9 v8 (fun (r18 : Int32) => (r18 = 0 → (wpl_X1_tellFurther_15 k1 v9 K99 n (v8 + (1 : Int32)) v10 μ11)) ∧ (¬ r18 = 0 → (wp_X6_at 27 μ11 v9 (fun (r22 : Int32) => wp_X6_put 27 μ11 v9 (r22 ||| ((1 : Int32) <<< (v8 &&& 31))) (fun (μ25 : TMem) => wp_X6_at 27 μ25 v8 (fun (r26 : Int32) => wp_X6_put 27 μ25 v8 (r26 ||| ((1 : Int32) <<< (v9 &&& 31))) (fun (μ29 : TMem) => wpl_X1_tellFurther_15 k1 v9 K99 n (v8 + (1 : Int32)) (1 : Int32) μ29)))))))))))))
    refine ⟨fun c_ex => ?_, fun c_in => ?_⟩
    · exact hK99 v10 μ11 (by first | assumption | exact Or.inl rfl | exact Or.inr rfl | exact isB_or (by assumption) (by first | assumption | exact Or.inl rfl | exact Or.inr rfl)) hF
    have c_lt : ¬ (v9) ≤ v8 := c_in
    refine f_X6_at 27 rfl μ11 v9 (fun r13 => ?_)
    refine f_X9_isIn r13 v8 (fun r16 b185 => ?_)
    refine ⟨fun c186 => ?_, fun c187 => ?_⟩
    · exact ih (v8 + (1 : Int32)) v10 μ11 (lt_m c_lt (by omega)) (lt_p (by assumption) c_lt) (by first | assumption | exact Or.inl rfl | exact Or.inr rfl | exact isB_or (by assumption) (by first | assumption | exact Or.inl rfl | exact Or.inr rfl)) hF
    · refine f_X1_isLeadingToUnlike k1 hk1 μ11 v9 v8 (fun r18 b188 => ?_)
      refine ⟨fun c189 => ?_, fun c190 => ?_⟩
      · exact ih (v8 + (1 : Int32)) v10 μ11 (lt_m c_lt (by omega)) (lt_p (by assumption) c_lt) (by first | assumption | exact Or.inl rfl | exact Or.inr rfl | exact isB_or (by assumption) (by first | assumption | exact Or.inl rfl | exact Or.inr rfl)) hF
      · refine f_X6_at 27 rfl μ11 v9 (fun r22 => ?_)
        refine z_X6_put 27 rfl μ11 v9 (r22 ||| ((1 : Int32) <<< (v8 &&& 31))) (Or.inl (by decide)) (fun μ25 hf191 => ?_)
        refine f_X6_at 27 rfl μ25 v8 (fun r26 => ?_)
        refine z_X6_put 27 rfl μ25 v8 (r26 ||| ((1 : Int32) <<< (v9 &&& 31))) (Or.inl (by decide)) (fun μ29 hf192 => ?_)
        exact ih (v8 + (1 : Int32)) (1 : Int32) μ29 (lt_m c_lt (by omega)) (lt_p (by assumption) c_lt) (by first | assumption | exact Or.inl rfl | exact Or.inr rfl | exact isB_or (by assumption) (by first | assumption | exact Or.inl rfl | exact Or.inr rfl)) (Zr.trans (Zr.trans hF (Zr.up (by decide) hf191)) (Zr.up (by decide) hf192))
set_option maxHeartbeats 2000000 in
theorem zl_wpl_X1_tellFurther_4 (μ0 : TMem) (k1 : Nat) (hk1 : kd k1 = 5) {Q : Int32 → TMem → Prop} (h : ∀ (r : Int32) (μ9 : TMem), isB r → Zr 0 μ0 μ9 → Q r μ9) : ∀ (n : Nat) (v2 : Int32) (v3 : Int32) (μ4 : TMem), (((μ0 k1 1)).toInt - (v2).toInt).toNat < n → 0 ≤ (v2).toInt → isB v3 → Zr 0 μ0 μ4 → wpl_X1_tellFurther_4 k1 Q n v2 v3 μ4 := by
  intro n
  induction n with
  | zero => intro v2 v3 μ4 hm; exact absurd hm (Nat.not_lt_zero _)
  | succ n ih =>
    intro v2 v3 μ4 hm hi bv3 hF
    show ((μ4 k1 1) ≤ v2 → (isB v3 ∧ Q v3 μ4)) ∧ (¬ (μ4 k1 1) ≤ v2 → (∃ n6x, wpl_X1_tellFurther_15 k1 v2 (fun (u31 : Int32) (μ32 : TMem) => wpl_X1_tellFurther_4 k1 Q n (v2 + (1 : Int32)) u31 μ32) n6x (0 : Int32) v3 μ4))
    refine ⟨fun c_ex => ?_, fun c_in => ?_⟩
    · refine ⟨(by first | assumption | exact Or.inl rfl | exact Or.inr rfl | exact isB_or (by assumption) (by first | assumption | exact Or.inl rfl | exact Or.inr rfl)), ?_⟩
      exact h _ _ (by first | assumption | exact Or.inl rfl | exact Or.inr rfl | exact isB_or (by assumption) (by first | assumption | exact Or.inl rfl | exact Or.inr rfl)) hF
    have e_k1_1 : μ4 k1 1 = μ0 k1 1 := hF.1.1 k1 1 (by rw [show kd k1 = 5 from hk1] <;> rfl)
    have c_lt : ¬ ((μ0 k1 1)) ≤ v2 := by
      rw [e_k1_1] at c_in
      exact c_in
    refine ⟨_, zl_wpl_X1_tellFurther_15 μ4 k1 hk1 v2 ?_ _ (0 : Int32) v3 μ4 (Nat.lt_succ_self _) (by first | decide | omega) (by first | assumption | exact Or.inl rfl | exact Or.inr rfl | exact isB_or (by assumption) (by first | assumption | exact Or.inl rfl | exact Or.inr rfl)) Zr.rf⟩
    · intro u31 μ32 b193 hf194
      exact ih (v2 + (1 : Int32)) u31 μ32 (lt_m c_lt (by omega)) (lt_p (by assumption) c_lt) (by first | assumption | exact Or.inl rfl | exact Or.inr rfl | exact isB_or (by assumption) (by first | assumption | exact Or.inl rfl | exact Or.inr rfl)) (Zr.trans hF (Zr.up (by decide) hf194))
set_option maxHeartbeats 2000000 in
theorem z_X1_tellFurther (k1 : Nat) (hk1 : kd k1 = 5) (μ : TMem)  {Q : Int32 → TMem → Prop} (h : ∀ (r : Int32) (μ9 : TMem), isB r → Zr 0 μ μ9 → Q r μ9) : wp_X1_tellFurther k1 μ Q := by
  show ∃ n0x, wpl_X1_tellFurther_4 k1 Q n0x (0 : Int32) (0 : Int32) μ
  refine ⟨_, zl_wpl_X1_tellFurther_4 μ k1 hk1 (fun r9 μ9 b9 f9 => h r9 μ9 b9 (Zr.trans (Zr.rf) (Zr.up (by decide) f9))) _ (0 : Int32) (0 : Int32) μ (Nat.lt_succ_self _) (by first | decide | omega) (by first | assumption | exact Or.inl rfl | exact Or.inr rfl | exact isB_or (by assumption) (by first | assumption | exact Or.inl rfl | exact Or.inr rfl)) Zr.rf⟩
set_option maxHeartbeats 2000000 in
theorem zl_wpl_X1_findByPairs_2 (μ0 : TMem) (k1 : Nat) (hk1 : kd k1 = 5) {K29 : TMem → Prop} (hK29 : ∀ (u0 : TMem), Zr 0 μ0 u0 → K29 u0) : ∀ (n : Nat) (v2 : Int32) (μ3 : TMem), (((μ0 k1 1)).toInt - (v2).toInt).toNat < n → 0 ≤ (v2).toInt → Zr 0 μ0 μ3 → wpl_X1_findByPairs_2 k1 K29 n v2 μ3 := by
  intro n
  induction n with
  | zero => intro v2 μ3 hm; exact absurd hm (Nat.not_lt_zero _)
  | succ n ih =>
    intro v2 μ3 hm hi hF
    show ((μ3 k1 1) ≤ v2 → (K29 μ3)) ∧ (¬ (μ3 k1 1) ≤ v2 → (wp_X1_ofOtherGoalness k1 μ3 v2 (fun (r5 : Int32) => wp_X6_put 27 μ3 v2 r5 (fun (μ8 : TMem) => wpl_X1_findByPairs_2 k1 K29 n (v2 + (1 : Int32)) μ8))))
    refine ⟨fun c_ex => ?_, fun c_in => ?_⟩
    · exact hK29 μ3 hF
    have e_k1_1 : μ3 k1 1 = μ0 k1 1 := hF.1.1 k1 1 (by rw [show kd k1 = 5 from hk1] <;> rfl)
    have c_lt : ¬ ((μ0 k1 1)) ≤ v2 := by
      rw [e_k1_1] at c_in
      exact c_in
    refine f_X1_ofOtherGoalness k1 hk1 μ3 v2 (fun r5 => ?_)
    refine z_X6_put 27 rfl μ3 v2 r5 (Or.inl (by decide)) (fun μ8 hf198 => ?_)
    exact ih (v2 + (1 : Int32)) μ8 (lt_m c_lt (by omega)) (lt_p (by assumption) c_lt) (Zr.trans hF (Zr.up (by decide) hf198))
set_option maxHeartbeats 2000000 in
theorem zl_wpl_X1_findByPairs_33 (μ0 : TMem) (k1 : Nat) (hk1 : kd k1 = 5) {K56 : TMem → Prop} (hK56 : ∀ (u0 : TMem), Zr 0 μ0 u0 → K56 u0) : ∀ (n : Nat) (v12 : Int32) (v13 : Int32) (μ14 : TMem), (((1024 : Int32)).toInt - (v12).toInt).toNat < n → 0 ≤ (v12).toInt → Zr 0 μ0 μ14 → wpl_X1_findByPairs_33 k1 K56 n v12 v13 μ14 := by
  intro n
  induction n with
  | zero => intro v12 v13 μ14 hm; exact absurd hm (Nat.not_lt_zero _)
  | succ n ih =>
    intro v12 v13 μ14 hm hi hF
    show ((1024 : Int32) ≤ v12 → (K56 μ14)) ∧ (¬ (1024 : Int32) ≤ v12 → ((v13 = 0 → (K56 μ14)) ∧ (¬ v13 = 0 → (wp_X1_tellFurther k1 μ14 (fun (r18 : Int32) (μ17 : TMem) => wpl_X1_findByPairs_33 k1 K56 n (v12 + (1 : Int32)) r18 μ17)))))
    refine ⟨fun c_ex => ?_, fun c_in => ?_⟩
    · exact hK56 μ14 hF
    have c_lt : ¬ ((1024 : Int32)) ≤ v12 := c_in
    refine ⟨fun c199 => ?_, fun c200 => ?_⟩
    · exact hK56 μ14 hF
    · refine z_X1_tellFurther k1 hk1 μ14 (fun r18 μ17 b201 hf202 => ?_)
      exact ih (v12 + (1 : Int32)) r18 μ17 (lt_m c_lt (by omega)) (lt_p (by assumption) c_lt) (Zr.trans hF (Zr.up (by decide) hf202))
set_option maxHeartbeats 2000000 in
theorem zl_wpl_X1_findByPairs_58 (μ0 : TMem) (k1 : Nat) (hk1 : kd k1 = 5) {Q : TMem → Prop} (h : ∀ μ9 : TMem, Zr 0 μ0 μ9 → Q μ9) : ∀ (n : Nat) (v22 : Int32) (μ23 : TMem), (((μ0 k1 1)).toInt - (v22).toInt).toNat < n → 0 ≤ (v22).toInt → Zr 0 μ0 μ23 → wpl_X1_findByPairs_58 k1 Q n v22 μ23 := by
  intro n
  induction n with
  | zero => intro v22 μ23 hm; exact absurd hm (Nat.not_lt_zero _)
  | succ n ih =>
    intro v22 μ23 hm hi hF
    show ((μ23 k1 1) ≤ v22 → (Q μ23)) ∧ (¬ (μ23 k1 1) ≤ v22 → (wp_X1_firstNotUnlike μ23 v22 (fun (r25 : Int32) => wp_X6_put 23 μ23 v22 r25 (fun (μ28 : TMem) => wpl_X1_findByPairs_58 k1 Q n (v22 + (1 : Int32)) μ28))))
    refine ⟨fun c_ex => ?_, fun c_in => ?_⟩
    · exact h _ hF
    have e_k1_1 : μ23 k1 1 = μ0 k1 1 := hF.1.1 k1 1 (by rw [show kd k1 = 5 from hk1] <;> rfl)
    have c_lt : ¬ ((μ0 k1 1)) ≤ v22 := by
      rw [e_k1_1] at c_in
      exact c_in
    refine f_X1_firstNotUnlike μ23 v22 (fun r25 => ?_)
    refine z_X6_put 23 rfl μ23 v22 r25 (Or.inl (by decide)) (fun μ28 hf203 => ?_)
    exact ih (v22 + (1 : Int32)) μ28 (lt_m c_lt (by omega)) (lt_p (by assumption) c_lt) (Zr.trans hF (Zr.up (by decide) hf203))
set_option maxHeartbeats 2000000 in
theorem z_X1_findByPairs (k1 : Nat) (hk1 : kd k1 = 5) (μ : TMem)  {Q : TMem → Prop} (h : ∀ μ9 : TMem, Zr 0 μ μ9 → Q μ9) : wp_X1_findByPairs k1 μ Q := by
  show ∃ n0x, wpl_X1_findByPairs_2 k1 (fun (μ10 : TMem) => ∃ n10x, wpl_X1_findByPairs_33 k1 (fun (μ20 : TMem) => ∃ n20x, wpl_X1_findByPairs_58 k1 Q n20x (0 : Int32) μ20) n10x (0 : Int32) (1 : Int32) μ10) n0x (0 : Int32) μ
  refine ⟨_, zl_wpl_X1_findByPairs_2 μ k1 hk1 ?_ _ (0 : Int32) μ (Nat.lt_succ_self _) (by first | decide | omega) Zr.rf⟩
  · intro μ10 hf204
    refine ⟨_, zl_wpl_X1_findByPairs_33 μ10 k1 hk1 ?_ _ (0 : Int32) (1 : Int32) μ10 (Nat.lt_succ_self _) (by first | decide | omega) Zr.rf⟩
    · intro μ20 hf205
      refine ⟨_, zl_wpl_X1_findByPairs_58 μ20 k1 hk1 (fun μ9 f9 => h μ9 (Zr.trans (Zr.trans (Zr.trans (Zr.rf) (Zr.up (by decide) hf204)) (Zr.up (by decide) hf205)) (Zr.up (by decide) f9))) _ (0 : Int32) μ20 (Nat.lt_succ_self _) (by first | decide | omega) Zr.rf⟩
set_option maxHeartbeats 2000000 in
theorem zl_wpl_X2_becomeRound_36 (μ0 : TMem) (k0 : Nat) (hk0 : kd k0 = 2 ∧ 9 < k0) (k1 : Nat) (hk1 : kd k1 = 2) (v7 : Int32) {K59 : TMem → Prop} (hK59 : ∀ (u0 : TMem), Zr 0 μ0 u0 → K59 u0) : ∀ (n : Nat) (v6 : Int32) (μ8 : TMem), (((3 : Int32)).toInt - (v6).toInt).toNat < n → 0 ≤ (v6).toInt → Zr 0 μ0 μ8 → wpl_X2_becomeRound_36 k0 k1 v7 K59 n v6 μ8 := by
  intro n
  induction n with
  | zero => intro v6 μ8 hm; exact absurd hm (Nat.not_lt_zero _)
  | succ n ih =>
    intro v6 μ8 hm hi hF
    show ((3 : Int32) ≤ v6 → (K59 μ8)) ∧ (¬ (3 : Int32) ≤ v6 → (wp_X2_sources k1 μ8 v7 v6 (fun (r10 : Int32) => wp_X7_put k0 μ8 v7 v6 r10 (fun (μ13 : TMem) => wpl_X2_becomeRound_36 k0 k1 v7 K59 n (v6 + (1 : Int32)) μ13))))
    refine ⟨fun c_ex => ?_, fun c_in => ?_⟩
    · exact hK59 μ8 hF
    have c_lt : ¬ ((3 : Int32)) ≤ v6 := c_in
    refine f_X2_sources k1 hk1 μ8 v7 v6 (fun r10 => ?_)
    refine z_X7_put k0 ⟨Or.inl hk0.1, hk0.2⟩ μ8 v7 v6 r10 (fun μ13 hf242 => ?_)
    exact ih (v6 + (1 : Int32)) μ13 (lt_m c_lt (by omega)) (lt_p (by assumption) c_lt) (Zr.trans hF (Zr.up (by decide) hf242))
set_option maxHeartbeats 2000000 in
theorem zl_wpl_X2_becomeRound_26 (μ0 : TMem) (k0 : Nat) (hk0 : kd k0 = 2 ∧ 9 < k0) (k1 : Nat) (hk1 : kd k1 = 2) {Q : TMem → Prop} (h : ∀ μ9 : TMem, Zr 0 μ0 μ9 → Q μ9) : ∀ (n : Nat) (v2 : Int32) (μ3 : TMem), (((μ0 k0 1)).toInt - (v2).toInt).toNat < n → 0 ≤ (v2).toInt → Zr 0 μ0 μ3 → wpl_X2_becomeRound_26 k0 k1 Q n v2 μ3 := by
  intro n
  induction n with
  | zero => intro v2 μ3 hm; exact absurd hm (Nat.not_lt_zero _)
  | succ n ih =>
    intro v2 μ3 hm hi hF
    show ((μ3 k0 1) ≤ v2 → (Q μ3)) ∧ (¬ (μ3 k0 1) ≤ v2 → (∃ n4x, wpl_X2_becomeRound_36 k0 k1 v2 (fun (μ15 : TMem) => wpl_X2_becomeRound_26 k0 k1 Q n (v2 + (1 : Int32)) μ15) n4x (0 : Int32) μ3))
    refine ⟨fun c_ex => ?_, fun c_in => ?_⟩
    · exact h _ hF
    have e_k0_1 : μ3 k0 1 = μ0 k0 1 := hF.1.1 k0 1 (by rw [show kd k0 = 2 from hk0.1] <;> rfl)
    have c_lt : ¬ ((μ0 k0 1)) ≤ v2 := by
      rw [e_k0_1] at c_in
      exact c_in
    refine ⟨_, zl_wpl_X2_becomeRound_36 μ3 k0 hk0 k1 hk1 v2 ?_ _ (0 : Int32) μ3 (Nat.lt_succ_self _) (by first | decide | omega) Zr.rf⟩
    · intro μ15 hf243
      exact ih (v2 + (1 : Int32)) μ15 (lt_m c_lt (by omega)) (lt_p (by assumption) c_lt) (Zr.trans hF (Zr.up (by decide) hf243))
set_option maxHeartbeats 2000000 in
theorem z_X2_becomeRound (k0 : Nat) (hk0 : kd k0 = 2 ∧ 9 < k0) (k1 : Nat) (hk1 : kd k1 = 2) (μ : TMem)  {Q : TMem → Prop} (h : ∀ μ9 : TMem, Zr 2 μ μ9 → Q μ9) : wp_X2_becomeRound k0 k1 μ Q := by
  show ∃ n0x, wpl_X2_becomeRound_26 k0 k1 Q n0x (0 : Int32) (tms (tms (tms μ k0 1 (μ k1 1)) k0 3 ((tms μ k0 1 (μ k1 1)) k1 2)) k0 2 ((tms (tms μ k0 1 (μ k1 1)) k0 3 ((tms μ k0 1 (μ k1 1)) k1 2)) k1 3))
  refine ⟨_, zl_wpl_X2_becomeRound_26 (tms (tms (tms μ k0 1 (μ k1 1)) k0 3 ((tms μ k0 1 (μ k1 1)) k1 2)) k0 2 ((tms (tms μ k0 1 (μ k1 1)) k0 3 ((tms μ k0 1 (μ k1 1)) k1 2)) k1 3)) k0 hk0 k1 hk1 (fun μ9 f9 => h μ9 (Zr.trans (Zr.st (Zr.st (Zr.st (Zr.rf) (by rw [show kd k0 = 2 from hk0.1] <;> rfl) (Or.inl (ne43 (K := 2) hk0.1 (by decide)))) (by rw [show kd k0 = 2 from hk0.1] <;> rfl) (Or.inl (ne43 (K := 2) hk0.1 (by decide)))) (by rw [show kd k0 = 2 from hk0.1] <;> rfl) (Or.inl (ne43 (K := 2) hk0.1 (by decide)))) (Zr.up (by decide) f9))) _ (0 : Int32) (tms (tms (tms μ k0 1 (μ k1 1)) k0 3 ((tms μ k0 1 (μ k1 1)) k1 2)) k0 2 ((tms (tms μ k0 1 (μ k1 1)) k0 3 ((tms μ k0 1 (μ k1 1)) k1 2)) k1 3)) (Nat.lt_succ_self _) (by first | decide | omega) Zr.rf⟩
set_option maxHeartbeats 2000000 in
theorem z_X3_makeByTurning (k1 : Nat) (hk1 : kd k1 = 2) (k2 : Nat) (hk2 : kd k2 = 5) (μ : TMem)  {Q : Int32 → TMem → Prop} (h : ∀ (r : Int32) (μ9 : TMem), isB r → Zr 2 μ μ9 → Q r μ9) : wp_X3_makeByTurning k1 k2 μ Q := by
  show wp_X2_becomeRound 31 k1 μ (fun (μ1 : TMem) => wp_X3_makeOneWay 31 33 μ1 (fun (r3 : Int32) (μ2 : TMem) => (¬ r3 = 0 → (wp_X2_becomePlain 29 33 μ2 (fun (μ5 : TMem) => wp_X2_becomeRound 31 29 μ5 (fun (μ6 : TMem) => wp_X3_makeOneWay 31 k2 μ6 (fun (r8 : Int32) (μ7 : TMem) => isB r8 ∧ Q r8 μ7))))) ∧ (r3 = 0 → (Q (0 : Int32) μ2))))
  refine z_X2_becomeRound 31 ⟨rfl, by decide⟩ k1 hk1 μ (fun μ1 hf253 => ?_)
  refine z_X3_makeOneWay 31 rfl 33 rfl μ1 (fun r3 μ2 b254 hf255 => ?_)
  refine ⟨fun c256 => ?_, fun c257 => ?_⟩
  · refine z_X2_becomePlain 29 ⟨rfl, by decide⟩ 33 rfl μ2 (fun μ5 hf258 => ?_)
    refine z_X2_becomeRound 31 ⟨rfl, by decide⟩ 29 rfl μ5 (fun μ6 hf259 => ?_)
    refine z_X3_makeOneWay 31 rfl k2 hk2 μ6 (fun r8 μ7 b260 hf261 => ?_)
    refine ⟨(by first | assumption | exact Or.inl rfl | exact Or.inr rfl | exact isB_or (by assumption) (by first | assumption | exact Or.inl rfl | exact Or.inr rfl)), ?_⟩
    exact h _ _ (by first | assumption | exact Or.inl rfl | exact Or.inr rfl | exact isB_or (by assumption) (by first | assumption | exact Or.inl rfl | exact Or.inr rfl)) (Zr.trans (Zr.trans (Zr.trans (Zr.trans (Zr.trans (Zr.rf) (Zr.up (by decide) hf253)) (Zr.up (by decide) hf255)) (Zr.up (by decide) hf258)) (Zr.up (by decide) hf259)) (Zr.up (by decide) hf261))
  · exact h _ _ (by first | assumption | exact Or.inl rfl | exact Or.inr rfl | exact isB_or (by assumption) (by first | assumption | exact Or.inl rfl | exact Or.inr rfl)) (Zr.trans (Zr.trans (Zr.rf) (Zr.up (by decide) hf253)) (Zr.up (by decide) hf255))
set_option maxHeartbeats 2000000 in
theorem z_X3_makeBy (k2 : Nat) (hk2 : kd k2 = 2) (k3 : Nat) (hk3 : kd k3 = 5) (μ : TMem) (a1 : Int32) {Q : Int32 → TMem → Prop} (h : ∀ (r : Int32) (μ9 : TMem), isB r → Zr 2 μ μ9 → Q r μ9) : wp_X3_makeBy k2 k3 μ a1 Q := by
  show (¬ a1 = (3 : Int32) → ((¬ a1 = (2 : Int32) → (wp_X3_makeOneWay k2 33 μ (fun (r4 : Int32) (μ3 : TMem) => (¬ r4 = 0 → (∀ J6 : TMem → Prop, (∀ (μ7 : TMem), (wp_X3_makeGroups 33 k3 μ7 (fun (μ8 : TMem) => Q (1 : Int32) μ8)) → J6 μ7) → ((¬ a1 = (1 : Int32) → (wp_X1_findByParting 33 μ3 (fun (μ10 : TMem) => J6 μ10))) ∧ (a1 = (1 : Int32) → (wp_X1_findByPairs 33 μ3 (fun (μ11 : TMem) => J6 μ11)))))) ∧ (r4 = 0 → (Q (0 : Int32) μ3))))) ∧ (a1 = (2 : Int32) → (wp_X3_makeByTurning k2 k3 μ (fun (r13 : Int32) (μ12 : TMem) => isB r13 ∧ Q r13 μ12))))) ∧ (a1 = (3 : Int32) → (wp_X3_makeOneWay k2 k3 μ (fun (r16 : Int32) (μ15 : TMem) => isB r16 ∧ Q r16 μ15)))
  refine ⟨fun c262 => ?_, fun c263 => ?_⟩
  · refine ⟨fun c264 => ?_, fun c265 => ?_⟩
    · refine z_X3_makeOneWay k2 hk2 33 rfl μ (fun r4 μ3 b266 hf267 => ?_)
      refine ⟨fun c268 => ?_, fun c269 => ?_⟩
      · intro J6 hJ6
        refine ⟨fun c270 => ?_, fun c271 => ?_⟩
        · refine z_X1_findByParting 33 rfl μ3 (fun μ10 hf272 => ?_)
          refine hJ6 μ10 ?_
          refine z_X3_makeGroups 33 rfl k3 hk3 μ10 (fun μ8 hf273 => ?_)
          exact h _ _ (by first | assumption | exact Or.inl rfl | exact Or.inr rfl | exact isB_or (by assumption) (by first | assumption | exact Or.inl rfl | exact Or.inr rfl)) (Zr.trans (Zr.trans (Zr.trans (Zr.rf) (Zr.up (by decide) hf267)) (Zr.up (by decide) hf272)) (Zr.up (by decide) hf273))
        · refine z_X1_findByPairs 33 rfl μ3 (fun μ11 hf274 => ?_)
          refine hJ6 μ11 ?_
          refine z_X3_makeGroups 33 rfl k3 hk3 μ11 (fun μ8 hf275 => ?_)
          exact h _ _ (by first | assumption | exact Or.inl rfl | exact Or.inr rfl | exact isB_or (by assumption) (by first | assumption | exact Or.inl rfl | exact Or.inr rfl)) (Zr.trans (Zr.trans (Zr.trans (Zr.rf) (Zr.up (by decide) hf267)) (Zr.up (by decide) hf274)) (Zr.up (by decide) hf275))
      · exact h _ _ (by first | assumption | exact Or.inl rfl | exact Or.inr rfl | exact isB_or (by assumption) (by first | assumption | exact Or.inl rfl | exact Or.inr rfl)) (Zr.trans (Zr.rf) (Zr.up (by decide) hf267))
    · refine z_X3_makeByTurning k2 hk2 k3 hk3 μ (fun r13 μ12 b276 hf277 => ?_)
      refine ⟨(by first | assumption | exact Or.inl rfl | exact Or.inr rfl | exact isB_or (by assumption) (by first | assumption | exact Or.inl rfl | exact Or.inr rfl)), ?_⟩
      exact h _ _ (by first | assumption | exact Or.inl rfl | exact Or.inr rfl | exact isB_or (by assumption) (by first | assumption | exact Or.inl rfl | exact Or.inr rfl)) (Zr.trans (Zr.rf) (Zr.up (by decide) hf277))
  · refine z_X3_makeOneWay k2 hk2 k3 hk3 μ (fun r16 μ15 b278 hf279 => ?_)
    refine ⟨(by first | assumption | exact Or.inl rfl | exact Or.inr rfl | exact isB_or (by assumption) (by first | assumption | exact Or.inl rfl | exact Or.inr rfl)), ?_⟩
    exact h _ _ (by first | assumption | exact Or.inl rfl | exact Or.inr rfl | exact isB_or (by assumption) (by first | assumption | exact Or.inl rfl | exact Or.inr rfl)) (Zr.trans (Zr.rf) (Zr.up (by decide) hf279))
set_option maxHeartbeats 2000000 in
theorem zl_wpl_X8_count_2 (μ0 : TMem) (k1 : Nat) (hk1 : kd k1 = 5) {K37 : TMem → Prop} (hK37 : ∀ (u0 : TMem), Zr 0 μ0 u0 → K37 u0) : ∀ (n : Nat) (v2 : Int32) (μ3 : TMem), (((μ0 k1 1)).toInt - (v2).toInt).toNat < n → 0 ≤ (v2).toInt → Zr 0 μ0 μ3 → wpl_X8_count_2 k1 K37 n v2 μ3 := by
  intro n
  induction n with
  | zero => intro v2 μ3 hm; exact absurd hm (Nat.not_lt_zero _)
  | succ n ih =>
    intro v2 μ3 hm hi hF
    show ((μ3 k1 1) ≤ v2 → (K37 μ3)) ∧ (¬ (μ3 k1 1) ≤ v2 → (wp_X5_isGoal k1 μ3 v2 (fun (r5 : Int32) => ∀ J8 : Int32 → Prop, (∀ (j9 : Int32), (wp_X6_put 49 μ3 v2 j9 (fun (μ10 : TMem) => wpl_X8_count_2 k1 K37 n (v2 + (1 : Int32)) μ10)) → J8 j9) → ((r5 = 0 → (J8 (0 : Int32))) ∧ (¬ r5 = 0 → (J8 (1 : Int32)))))))
    refine ⟨fun c_ex => ?_, fun c_in => ?_⟩
    · exact hK37 μ3 hF
    have e_k1_1 : μ3 k1 1 = μ0 k1 1 := hF.1.1 k1 1 (by rw [show kd k1 = 5 from hk1] <;> rfl)
    have c_lt : ¬ ((μ0 k1 1)) ≤ v2 := by
      rw [e_k1_1] at c_in
      exact c_in
    refine f_X5_isGoal k1 hk1 μ3 v2 (fun r5 b289 => ?_)
    intro J8 hJ8
    refine ⟨fun c290 => ?_, fun c291 => ?_⟩
    · refine hJ8 (0 : Int32) ?_
      refine z_X6_put 49 rfl μ3 v2 (0 : Int32) (Or.inl (by decide)) (fun μ10 hf292 => ?_)
      exact ih (v2 + (1 : Int32)) μ10 (lt_m c_lt (by omega)) (lt_p (by assumption) c_lt) (Zr.trans hF (Zr.up (by decide) hf292))
    · refine hJ8 (1 : Int32) ?_
      refine z_X6_put 49 rfl μ3 v2 (1 : Int32) (Or.inl (by decide)) (fun μ10 hf293 => ?_)
      exact ih (v2 + (1 : Int32)) μ10 (lt_m c_lt (by omega)) (lt_p (by assumption) c_lt) (Zr.trans hF (Zr.up (by decide) hf293))
set_option maxHeartbeats 2000000 in
theorem zl_wpl_X8_count_47 (μ0 : TMem) (k1 : Nat) (hk1 : kd k1 = 5) (v20 : Int32) {K83 : TMem → Prop} (hK83 : ∀ (u0 : TMem), Zr 0 μ0 u0 → K83 u0) : ∀ (n : Nat) (v19 : Int32) (μ21 : TMem), (((μ0 k1 1)).toInt - (v19).toInt).toNat < n → 0 ≤ (v19).toInt → Zr 0 μ0 μ21 → wpl_X8_count_47 k1 v20 K83 n v19 μ21 := by
  intro n
  induction n with
  | zero => intro v19 μ21 hm; exact absurd hm (Nat.not_lt_zero _)
  | succ n ih =>
    intro v19 μ21 hm hi hF
    show ((μ21 k1 1) ≤ v19 → (K83 μ21)) ∧ (¬ (μ21 k1 1) ≤ v19 → (wp_X8_sumOver k1 μ21 v19 (v20 - (1 : Int32)) (fun (r23 : Int32) => wp_X6_put 49 μ21 ((v20 * (32 : Int32)) + v19) r23 (fun (μ26 : TMem) => wpl_X8_count_47 k1 v20 K83 n (v19 + (1 : Int32)) μ26))))
    refine ⟨fun c_ex => ?_, fun c_in => ?_⟩
    · exact hK83 μ21 hF
    have e_k1_1 : μ21 k1 1 = μ0 k1 1 := hF.1.1 k1 1 (by rw [show kd k1 = 5 from hk1] <;> rfl)
    have c_lt : ¬ ((μ0 k1 1)) ≤ v19 := by
      rw [e_k1_1] at c_in
      exact c_in
    refine f_X8_sumOver k1 hk1 μ21 v19 (v20 - (1 : Int32)) (fun r23 => ?_)
    refine z_X6_put 49 rfl μ21 ((v20 * (32 : Int32)) + v19) r23 (Or.inl (by decide)) (fun μ26 hf294 => ?_)
    exact ih (v19 + (1 : Int32)) μ26 (lt_m c_lt (by omega)) (lt_p (by assumption) c_lt) (Zr.trans hF (Zr.up (by decide) hf294))
set_option maxHeartbeats 2000000 in
theorem zl_wpl_X8_count_39 (μ0 : TMem) (k1 : Nat) (hk1 : kd k1 = 5) {Q : TMem → Prop} (h : ∀ μ9 : TMem, Zr 0 μ0 μ9 → Q μ9) : ∀ (n : Nat) (v15 : Int32) (μ16 : TMem), (((12 : Int32)).toInt + 1 - (v15).toInt).toNat < n → 0 ≤ (v15).toInt → Zr 0 μ0 μ16 → wpl_X8_count_39 k1 Q n v15 μ16 := by
  intro n
  induction n with
  | zero => intro v15 μ16 hm; exact absurd hm (Nat.not_lt_zero _)
  | succ n ih =>
    intro v15 μ16 hm hi hF
    show ((12 : Int32) < v15 → (Q μ16)) ∧ (¬ (12 : Int32) < v15 → (∃ n17x, wpl_X8_count_47 k1 v15 (fun (μ28 : TMem) => wpl_X8_count_39 k1 Q n (v15 + (1 : Int32)) μ28) n17x (0 : Int32) μ16))
    refine ⟨fun c_ex => ?_, fun c_in => ?_⟩
    · exact h _ hF
    have c_lt : ¬ ((12 : Int32)) < v15 := c_in
    refine ⟨_, zl_wpl_X8_count_47 μ16 k1 hk1 v15 ?_ _ (0 : Int32) μ16 (Nat.lt_succ_self _) (by first | decide | omega) Zr.rf⟩
    · intro μ28 hf295
      exact ih (v15 + (1 : Int32)) μ28 (lt_ms c_lt (by decide) (by omega)) (lt_ps (by assumption) c_lt (by decide)) (Zr.trans hF (Zr.up (by decide) hf295))
set_option maxHeartbeats 2000000 in
theorem z_X8_count (k1 : Nat) (hk1 : kd k1 = 5) (μ : TMem)  {Q : TMem → Prop} (h : ∀ μ9 : TMem, Zr 0 μ μ9 → Q μ9) : wp_X8_count k1 μ Q := by
  show ∃ n0x, wpl_X8_count_2 k1 (fun (μ13 : TMem) => ∃ n13x, wpl_X8_count_39 k1 Q n13x (1 : Int32) μ13) n0x (0 : Int32) μ
  refine ⟨_, zl_wpl_X8_count_2 μ k1 hk1 ?_ _ (0 : Int32) μ (Nat.lt_succ_self _) (by first | decide | omega) Zr.rf⟩
  · intro μ13 hf296
    refine ⟨_, zl_wpl_X8_count_39 μ13 k1 hk1 (fun μ9 f9 => h μ9 (Zr.trans (Zr.trans (Zr.rf) (Zr.up (by decide) hf296)) (Zr.up (by decide) f9))) _ (1 : Int32) μ13 (Nat.lt_succ_self _) (by first | decide | omega) Zr.rf⟩
set_option maxHeartbeats 2000000 in
theorem z_X9_machineAt (μ : TMem) (a1 : Int32) {Q : Nat → TMem → Prop} {X : String → TMem → Prop} (h : ∀ (r : Nat) (μ9 : TMem), kd r = 2 → Zr 0 μ μ9 → Q r μ9) (hX : ∀ (E : String) (μ9 : TMem), E ∈ ex_I → Zr 0 μ μ9 → X E μ9) : wp_X9_machineAt μ a1 Q X := by
  show (a1 < 0 → (X "java/lang/IndexOutOfBoundsException" μ)) ∧ (¬ a1 < 0 → ((a1 < (4 : Int32) → (vp_in a1 4 ∧ (Q (2 + 2 * a1.toNatClampNeg) μ))) ∧ (¬ a1 < (4 : Int32) → (X "java/lang/IndexOutOfBoundsException" μ))))
  refine ⟨fun c297 => ?_, fun c298 => ?_⟩
  · exact hX _ _ (by decide) (Zr.rf)
  · refine ⟨fun c299 => ?_, fun c300 => ?_⟩
    · have hv301 : vp_in a1 4 := (by first | exact vp_a (by assumption) (by assumption) (tl_s _) | exact vp_b (by assumption) (by assumption) (tl_s _) | exact vp_a (n := 4) (by assumption) (by assumption) (by decide) | exact vp_b (n := 4) (by assumption) (by assumption) (by decide) | exact vp_c (by assumption) (by assumption))
      refine ⟨hv301, ?_⟩
      exact h _ _ (kd_ma _ (vp_lt (by assumption))) (Zr.rf)
    · exact hX _ _ (by decide) (Zr.rf)
set_option maxHeartbeats 2000000 in
theorem z_X9_checkRange (μ : TMem) (a0 : Int32) (a1 : Int32) (a2 : Int32) {Q : TMem → Prop} {X : String → TMem → Prop} (h : ∀ μ9 : TMem, Zr 0 μ μ9 → Q μ9) (hX : ∀ (E : String) (μ9 : TMem), E ∈ ex_A → Zr 0 μ μ9 → X E μ9) : wp_X9_checkRange μ a0 a1 a2 Q X := by
  show (a0 < a1 → (X "java/lang/IllegalArgumentException" μ)) ∧ (¬ a0 < a1 → ((a0 ≤ a2 → (Q μ)) ∧ (¬ a0 ≤ a2 → (X "java/lang/IllegalArgumentException" μ))))
  refine ⟨fun c302 => ?_, fun c303 => ?_⟩
  · exact hX _ _ (by decide) (Zr.rf)
  · refine ⟨fun c304 => ?_, fun c305 => ?_⟩
    · exact h _ (Zr.rf)
    · exact hX _ _ (by decide) (Zr.rf)
set_option maxHeartbeats 2000000 in
theorem z_X9_checkWord (μ : TMem) (a0 : Int32) (a1 : Int32) {Q : TMem → Prop} {X : String → TMem → Prop} (h : ∀ μ9 : TMem, Zr 0 μ μ9 → Q μ9) (hX : ∀ (E : String) (μ9 : TMem), E ∈ ex_A → Zr 0 μ μ9 → X E μ9) : wp_X9_checkWord μ a0 a1 Q X := by
  show wp_X9_checkRange μ a0 (0 : Int32) (12 : Int32) (fun (μ1 : TMem) => wp_X9_countCodes a0 (fun (r2 : Int32) => wp_X9_checkRange μ1 a1 (0 : Int32) (r2 - (1 : Int32)) (fun (μ3 : TMem) => Q μ3) X)) X
  refine z_X9_checkRange μ a0 (0 : Int32) (12 : Int32) (fun μ1 hf466 => ?_) (fun E9 μ9 e9 f9 => hX E9 μ9 e9 (Zr.trans (Zr.rf) (Zr.up (by decide) f9)))
  refine f_X9_countCodes a0 (fun r2 => ?_)
  refine z_X9_checkRange μ1 a1 (0 : Int32) (r2 - (1 : Int32)) (fun μ3 hf467 => ?_) (fun E9 μ9 e9 f9 => hX E9 μ9 e9 (Zr.trans (Zr.trans (Zr.rf) (Zr.up (by decide) hf466)) (Zr.up (by decide) f9)))
  exact h _ (Zr.trans (Zr.trans (Zr.rf) (Zr.up (by decide) hf466)) (Zr.up (by decide) hf467))
set_option maxHeartbeats 2000000 in
theorem z_X9_makeOrThrow (k2 : Nat) (hk2 : kd k2 = 2) (k3 : Nat) (hk3 : kd k3 = 5) (μ : TMem) (a1 : Int32) {Q : TMem → Prop} {X : String → TMem → Prop} (h : ∀ μ9 : TMem, Zr 2 μ μ9 → Q μ9) (hX : ∀ (E : String) (μ9 : TMem), E ∈ ex_S → Zr 2 μ μ9 → X E μ9) : wp_X9_makeOrThrow k2 k3 μ a1 Q X := by
  show wp_X3_makeBy k2 k3 μ a1 (fun (r2 : Int32) (μ1 : TMem) => (¬ r2 = 0 → (Q μ1)) ∧ (r2 = 0 → (X "java/lang/IllegalStateException" μ1)))
  refine z_X3_makeBy k2 hk2 k3 hk3 μ a1 (fun r2 μ1 b472 hf473 => ?_)
  refine ⟨fun c474 => ?_, fun c475 => ?_⟩
  · exact h _ (Zr.trans (Zr.rf) (Zr.up (by decide) hf473))
  · exact hX _ _ (by decide) (Zr.trans (Zr.rf) (Zr.up (by decide) hf473))
set_option maxHeartbeats 2000000 in
theorem z_X9_after (μ : TMem) (a1 : Int32) (a2 : Int32) (a3 : Int32) (a4 : Int32) {Q : Int32 → TMem → Prop} {X : String → TMem → Prop} (h : ∀ (r : Int32) (μ9 : TMem), Zr 2 μ μ9 → Q r μ9) (hX : ∀ (E : String) (μ9 : TMem), E ∈ ex_IAS → Zr 2 μ μ9 → X E μ9) : wp_X9_after μ a1 a2 a3 a4 Q X := by
  show wp_X9_machineAt μ a1 (fun (k2 : Nat) (μ1 : TMem) => wp_X9_checkWord μ1 a2 a3 (fun (μ3 : TMem) => wp_X9_checkRange μ3 a4 (0 : Int32) (2 : Int32) (fun (μ4 : TMem) => (¬ a4 = 0 → ((¬ a4 = (1 : Int32) → (wp_X9_makeOrThrow k2 57 μ4 (0 : Int32) (fun (μ7 : TMem) => wp_X5_stateAfter 57 μ7 a2 a3 (fun (r8 : Int32) => Q r8 μ7)) X)) ∧ (a4 = (1 : Int32) → (wp_X9_makeOrThrow k2 57 μ4 (3 : Int32) (fun (μ11 : TMem) => wp_X5_stateAfter 57 μ11 a2 a3 (fun (r12 : Int32) => Q r12 μ11)) X)))) ∧ (a4 = 0 → (wp_X2_statesAfter k2 μ4 a2 a3 (fun (r15 : Int32) => Q r15 μ4)))) X) X) X
  refine z_X9_machineAt μ a1 (fun k2 μ1 hk476 hf477 => ?_) (fun E9 μ9 e9 f9 => hX E9 μ9 (ex_sub (by decide) e9) (Zr.trans (Zr.rf) (Zr.up (by decide) f9)))
  refine z_X9_checkWord μ1 a2 a3 (fun μ3 hf478 => ?_) (fun E9 μ9 e9 f9 => hX E9 μ9 (ex_sub (by decide) e9) (Zr.trans (Zr.trans (Zr.rf) (Zr.up (by decide) hf477)) (Zr.up (by decide) f9)))
  refine z_X9_checkRange μ3 a4 (0 : Int32) (2 : Int32) (fun μ4 hf479 => ?_) (fun E9 μ9 e9 f9 => hX E9 μ9 (ex_sub (by decide) e9) (Zr.trans (Zr.trans (Zr.trans (Zr.rf) (Zr.up (by decide) hf477)) (Zr.up (by decide) hf478)) (Zr.up (by decide) f9)))
  refine ⟨fun c480 => ?_, fun c481 => ?_⟩
  · refine ⟨fun c482 => ?_, fun c483 => ?_⟩
    · refine z_X9_makeOrThrow k2 hk476 57 rfl μ4 (0 : Int32) (fun μ7 hf484 => ?_) (fun E9 μ9 e9 f9 => hX E9 μ9 (ex_sub (by decide) e9) (Zr.trans (Zr.trans (Zr.trans (Zr.trans (Zr.rf) (Zr.up (by decide) hf477)) (Zr.up (by decide) hf478)) (Zr.up (by decide) hf479)) (Zr.up (by decide) f9)))
      refine f_X5_stateAfter 57 rfl μ7 a2 a3 (fun r8 => ?_)
      exact h _ _ (Zr.trans (Zr.trans (Zr.trans (Zr.trans (Zr.rf) (Zr.up (by decide) hf477)) (Zr.up (by decide) hf478)) (Zr.up (by decide) hf479)) (Zr.up (by decide) hf484))
    · refine z_X9_makeOrThrow k2 hk476 57 rfl μ4 (3 : Int32) (fun μ11 hf485 => ?_) (fun E9 μ9 e9 f9 => hX E9 μ9 (ex_sub (by decide) e9) (Zr.trans (Zr.trans (Zr.trans (Zr.trans (Zr.rf) (Zr.up (by decide) hf477)) (Zr.up (by decide) hf478)) (Zr.up (by decide) hf479)) (Zr.up (by decide) f9)))
      refine f_X5_stateAfter 57 rfl μ11 a2 a3 (fun r12 => ?_)
      exact h _ _ (Zr.trans (Zr.trans (Zr.trans (Zr.trans (Zr.rf) (Zr.up (by decide) hf477)) (Zr.up (by decide) hf478)) (Zr.up (by decide) hf479)) (Zr.up (by decide) hf485))
  · refine f_X2_statesAfter k2 hk476 μ4 a2 a3 (fun r15 => ?_)
    exact h _ _ (Zr.trans (Zr.trans (Zr.trans (Zr.rf) (Zr.up (by decide) hf477)) (Zr.up (by decide) hf478)) (Zr.up (by decide) hf479))
set_option maxHeartbeats 2000000 in
theorem z_X9_size (μ : TMem) (a1 : Int32) (a2 : Int32) {Q : Int32 → TMem → Prop} {X : String → TMem → Prop} (h : ∀ (r : Int32) (μ9 : TMem), Zr 2 μ μ9 → Q r μ9) (hX : ∀ (E : String) (μ9 : TMem), E ∈ ex_IAS → Zr 2 μ μ9 → X E μ9) : wp_X9_size μ a1 a2 Q X := by
  show wp_X9_machineAt μ a1 (fun (k2 : Nat) (μ1 : TMem) => wp_X9_checkRange μ1 a2 (0 : Int32) (3 : Int32) (fun (μ3 : TMem) => wp_X9_makeOrThrow k2 57 μ3 a2 (fun (μ4 : TMem) => Q (μ4 57 1) μ4) X) X) X
  refine z_X9_machineAt μ a1 (fun k2 μ1 hk486 hf487 => ?_) (fun E9 μ9 e9 f9 => hX E9 μ9 (ex_sub (by decide) e9) (Zr.trans (Zr.rf) (Zr.up (by decide) f9)))
  refine z_X9_checkRange μ1 a2 (0 : Int32) (3 : Int32) (fun μ3 hf488 => ?_) (fun E9 μ9 e9 f9 => hX E9 μ9 (ex_sub (by decide) e9) (Zr.trans (Zr.trans (Zr.rf) (Zr.up (by decide) hf487)) (Zr.up (by decide) f9)))
  refine z_X9_makeOrThrow k2 hk486 57 rfl μ3 a2 (fun μ4 hf489 => ?_) (fun E9 μ9 e9 f9 => hX E9 μ9 (ex_sub (by decide) e9) (Zr.trans (Zr.trans (Zr.trans (Zr.rf) (Zr.up (by decide) hf487)) (Zr.up (by decide) hf488)) (Zr.up (by decide) f9)))
  exact h _ _ (Zr.trans (Zr.trans (Zr.trans (Zr.rf) (Zr.up (by decide) hf487)) (Zr.up (by decide) hf488)) (Zr.up (by decide) hf489))
set_option maxHeartbeats 2000000 in
theorem z_X9_kind (μ : TMem) (a1 : Int32) {Q : Int32 → TMem → Prop} {X : String → TMem → Prop} (h : ∀ (r : Int32) (μ9 : TMem), Zr 2 μ μ9 → Q r μ9) (hX : ∀ (E : String) (μ9 : TMem), E ∈ ex_IS → Zr 2 μ μ9 → X E μ9) : wp_X9_kind μ a1 Q X := by
  show wp_X9_machineAt μ a1 (fun (k2 : Nat) (μ1 : TMem) => wp_X9_makeOrThrow k2 57 μ1 (0 : Int32) (fun (μ3 : TMem) => (¬ (μ3 57 1) = (1 : Int32) → (wp_X5_isTakingLongOnes 57 μ3 (fun (r5 : Int32) => (r5 = 0 → (Q (2 : Int32) μ3)) ∧ (¬ r5 = 0 → (Q (3 : Int32) μ3))))) ∧ ((μ3 57 1) = (1 : Int32) → (wp_X5_isGoal 57 μ3 (0 : Int32) (fun (r9 : Int32) => (r9 = 0 → (Q (0 : Int32) μ3)) ∧ (¬ r9 = 0 → (Q (1 : Int32) μ3)))))) X) X
  refine z_X9_machineAt μ a1 (fun k2 μ1 hk490 hf491 => ?_) (fun E9 μ9 e9 f9 => hX E9 μ9 (ex_sub (by decide) e9) (Zr.trans (Zr.rf) (Zr.up (by decide) f9)))
  refine z_X9_makeOrThrow k2 hk490 57 rfl μ1 (0 : Int32) (fun μ3 hf492 => ?_) (fun E9 μ9 e9 f9 => hX E9 μ9 (ex_sub (by decide) e9) (Zr.trans (Zr.trans (Zr.rf) (Zr.up (by decide) hf491)) (Zr.up (by decide) f9)))
  refine ⟨fun c493 => ?_, fun c494 => ?_⟩
  · refine f_X5_isTakingLongOnes 57 rfl μ3 (fun r5 b495 => ?_)
    refine ⟨fun c496 => ?_, fun c497 => ?_⟩
    · exact h _ _ (Zr.trans (Zr.trans (Zr.rf) (Zr.up (by decide) hf491)) (Zr.up (by decide) hf492))
    · exact h _ _ (Zr.trans (Zr.trans (Zr.rf) (Zr.up (by decide) hf491)) (Zr.up (by decide) hf492))
  · refine f_X5_isGoal 57 rfl μ3 (0 : Int32) (fun r9 b498 => ?_)
    refine ⟨fun c499 => ?_, fun c500 => ?_⟩
    · exact h _ _ (Zr.trans (Zr.trans (Zr.rf) (Zr.up (by decide) hf491)) (Zr.up (by decide) hf492))
    · exact h _ _ (Zr.trans (Zr.trans (Zr.rf) (Zr.up (by decide) hf491)) (Zr.up (by decide) hf492))
set_option maxHeartbeats 2000000 in
theorem z_X9_many (μ : TMem) (a1 : Int32) (a2 : Int32) (a3 : Int32) {Q : Int32 → TMem → Prop} {X : String → TMem → Prop} (h : ∀ (r : Int32) (μ9 : TMem), Zr 2 μ μ9 → Q r μ9) (hX : ∀ (E : String) (μ9 : TMem), E ∈ ex_IAS → Zr 2 μ μ9 → X E μ9) : wp_X9_many μ a1 a2 a3 Q X := by
  show wp_X9_machineAt μ a1 (fun (k2 : Nat) (μ1 : TMem) => wp_X9_checkRange μ1 a3 (0 : Int32) (1 : Int32) (fun (μ3 : TMem) => (¬ a3 = (1 : Int32) → (wp_X9_checkRange μ3 a2 (0 : Int32) (12 : Int32) (fun (μ5 : TMem) => (¬ a3 = (1 : Int32) → (wp_X9_makeOrThrow k2 57 μ5 (0 : Int32) (fun (μ7 : TMem) => wp_X8_count 57 μ7 (fun (μ8 : TMem) => wp_X8_from μ8 (0 : Int32) a2 (fun (r9 : Int32) => Q r9 μ8))) X)) ∧ (a3 = (1 : Int32) → (wp_X2_countOneByOne k2 μ5 a2 (fun (r12 : Int32) => Q r12 μ5)))) X)) ∧ (a3 = (1 : Int32) → (wp_X9_checkRange μ3 a2 (0 : Int32) (5 : Int32) (fun (μ15 : TMem) => (¬ a3 = (1 : Int32) → (wp_X9_makeOrThrow k2 57 μ15 (0 : Int32) (fun (μ17 : TMem) => wp_X8_count 57 μ17 (fun (μ18 : TMem) => wp_X8_from μ18 (0 : Int32) a2 (fun (r19 : Int32) => Q r19 μ18))) X)) ∧ (a3 = (1 : Int32) → (wp_X2_countOneByOne k2 μ15 a2 (fun (r22 : Int32) => Q r22 μ15)))) X))) X) X
  refine z_X9_machineAt μ a1 (fun k2 μ1 hk501 hf502 => ?_) (fun E9 μ9 e9 f9 => hX E9 μ9 (ex_sub (by decide) e9) (Zr.trans (Zr.rf) (Zr.up (by decide) f9)))
  refine z_X9_checkRange μ1 a3 (0 : Int32) (1 : Int32) (fun μ3 hf503 => ?_) (fun E9 μ9 e9 f9 => hX E9 μ9 (ex_sub (by decide) e9) (Zr.trans (Zr.trans (Zr.rf) (Zr.up (by decide) hf502)) (Zr.up (by decide) f9)))
  refine ⟨fun c504 => ?_, fun c505 => ?_⟩
  · refine z_X9_checkRange μ3 a2 (0 : Int32) (12 : Int32) (fun μ5 hf506 => ?_) (fun E9 μ9 e9 f9 => hX E9 μ9 (ex_sub (by decide) e9) (Zr.trans (Zr.trans (Zr.trans (Zr.rf) (Zr.up (by decide) hf502)) (Zr.up (by decide) hf503)) (Zr.up (by decide) f9)))
    refine ⟨fun c507 => ?_, fun c508 => ?_⟩
    · refine z_X9_makeOrThrow k2 hk501 57 rfl μ5 (0 : Int32) (fun μ7 hf509 => ?_) (fun E9 μ9 e9 f9 => hX E9 μ9 (ex_sub (by decide) e9) (Zr.trans (Zr.trans (Zr.trans (Zr.trans (Zr.rf) (Zr.up (by decide) hf502)) (Zr.up (by decide) hf503)) (Zr.up (by decide) hf506)) (Zr.up (by decide) f9)))
      refine z_X8_count 57 rfl μ7 (fun μ8 hf510 => ?_)
      refine f_X8_from μ8 (0 : Int32) a2 (fun r9 => ?_)
      exact h _ _ (Zr.trans (Zr.trans (Zr.trans (Zr.trans (Zr.trans (Zr.rf) (Zr.up (by decide) hf502)) (Zr.up (by decide) hf503)) (Zr.up (by decide) hf506)) (Zr.up (by decide) hf509)) (Zr.up (by decide) hf510))
    · refine f_X2_countOneByOne k2 hk501 μ5 a2 (fun r12 => ?_)
      exact h _ _ (Zr.trans (Zr.trans (Zr.trans (Zr.rf) (Zr.up (by decide) hf502)) (Zr.up (by decide) hf503)) (Zr.up (by decide) hf506))
  · refine z_X9_checkRange μ3 a2 (0 : Int32) (5 : Int32) (fun μ15 hf511 => ?_) (fun E9 μ9 e9 f9 => hX E9 μ9 (ex_sub (by decide) e9) (Zr.trans (Zr.trans (Zr.trans (Zr.rf) (Zr.up (by decide) hf502)) (Zr.up (by decide) hf503)) (Zr.up (by decide) f9)))
    refine ⟨fun c512 => ?_, fun c513 => ?_⟩
    · refine z_X9_makeOrThrow k2 hk501 57 rfl μ15 (0 : Int32) (fun μ17 hf514 => ?_) (fun E9 μ9 e9 f9 => hX E9 μ9 (ex_sub (by decide) e9) (Zr.trans (Zr.trans (Zr.trans (Zr.trans (Zr.rf) (Zr.up (by decide) hf502)) (Zr.up (by decide) hf503)) (Zr.up (by decide) hf511)) (Zr.up (by decide) f9)))
      refine z_X8_count 57 rfl μ17 (fun μ18 hf515 => ?_)
      refine f_X8_from μ18 (0 : Int32) a2 (fun r19 => ?_)
      exact h _ _ (Zr.trans (Zr.trans (Zr.trans (Zr.trans (Zr.trans (Zr.rf) (Zr.up (by decide) hf502)) (Zr.up (by decide) hf503)) (Zr.up (by decide) hf511)) (Zr.up (by decide) hf514)) (Zr.up (by decide) hf515))
    · refine f_X2_countOneByOne k2 hk501 μ15 a2 (fun r22 => ?_)
      exact h _ _ (Zr.trans (Zr.trans (Zr.trans (Zr.rf) (Zr.up (by decide) hf502)) (Zr.up (by decide) hf503)) (Zr.up (by decide) hf511))
set_option maxHeartbeats 2000000 in
theorem z_X9_meetOrThrow (k1 : Nat) (hk1 : kd k1 = 2) (k2 : Nat) (hk2 : kd k2 = 2) (μ : TMem)  {Q : TMem → Prop} {X : String → TMem → Prop} (h : ∀ μ9 : TMem, Zr 2 μ μ9 → Q μ9) (hX : ∀ (E : String) (μ9 : TMem), E ∈ ex_S → Zr 2 μ μ9 → X E μ9) : wp_X9_meetOrThrow k1 k2 μ Q X := by
  show wp_X9_meetPairs k1 k2 μ (200 : Int32) (0 : Int32) (fun (r2 : Int32) (μ1 : TMem) => (¬ r2 = 0 → (Q μ1)) ∧ (r2 = 0 → (X "java/lang/IllegalStateException" μ1)))
  refine z_X9_meetPairs k1 hk1 k2 hk2 μ (200 : Int32) (0 : Int32) (fun r2 μ1 b516 hf517 => ?_)
  refine ⟨fun c518 => ?_, fun c519 => ?_⟩
  · exact h _ (Zr.trans (Zr.rf) (Zr.up (by decide) hf517))
  · exact hX _ _ (by decide) (Zr.trans (Zr.rf) (Zr.up (by decide) hf517))
set_option maxHeartbeats 2000000 in
theorem z_X9_isAlike (μ : TMem) (a1 : Int32) (a2 : Int32) (a3 : Int32) {Q : Int32 → TMem → Prop} {X : String → TMem → Prop} (h : ∀ (r : Int32) (μ9 : TMem), isB r → Zr 2 μ μ9 → Q r μ9) (hX : ∀ (E : String) (μ9 : TMem), E ∈ ex_IAS → Zr 2 μ μ9 → X E μ9) : wp_X9_isAlike μ a1 a2 a3 Q X := by
  show wp_X9_machineAt μ a1 (fun (k2 : Nat) (μ1 : TMem) => wp_X9_machineAt μ1 a2 (fun (k4 : Nat) (μ3 : TMem) => wp_X9_checkRange μ3 a3 (0 : Int32) (1 : Int32) (fun (μ5 : TMem) => (¬ a3 = 0 → (wp_X9_makeOrThrow k2 51 μ5 (0 : Int32) (fun (μ7 : TMem) => wp_X9_makeOrThrow k4 53 μ7 (0 : Int32) (fun (μ8 : TMem) => wp_X5_isSameAs 51 53 μ8 (fun (r9 : Int32) => isB r9 ∧ Q r9 μ8)) X) X)) ∧ (a3 = 0 → (wp_X9_meetOrThrow k2 k4 μ5 (fun (μ13 : TMem) => (¬ (μ13 35 9) = (-1 : Int32) → (Q (0 : Int32) μ13)) ∧ ((μ13 35 9) = (-1 : Int32) → (Q (1 : Int32) μ13))) X))) X) X) X
  refine z_X9_machineAt μ a1 (fun k2 μ1 hk520 hf521 => ?_) (fun E9 μ9 e9 f9 => hX E9 μ9 (ex_sub (by decide) e9) (Zr.trans (Zr.rf) (Zr.up (by decide) f9)))
  refine z_X9_machineAt μ1 a2 (fun k4 μ3 hk522 hf523 => ?_) (fun E9 μ9 e9 f9 => hX E9 μ9 (ex_sub (by decide) e9) (Zr.trans (Zr.trans (Zr.rf) (Zr.up (by decide) hf521)) (Zr.up (by decide) f9)))
  refine z_X9_checkRange μ3 a3 (0 : Int32) (1 : Int32) (fun μ5 hf524 => ?_) (fun E9 μ9 e9 f9 => hX E9 μ9 (ex_sub (by decide) e9) (Zr.trans (Zr.trans (Zr.trans (Zr.rf) (Zr.up (by decide) hf521)) (Zr.up (by decide) hf523)) (Zr.up (by decide) f9)))
  refine ⟨fun c525 => ?_, fun c526 => ?_⟩
  · refine z_X9_makeOrThrow k2 hk520 51 rfl μ5 (0 : Int32) (fun μ7 hf527 => ?_) (fun E9 μ9 e9 f9 => hX E9 μ9 (ex_sub (by decide) e9) (Zr.trans (Zr.trans (Zr.trans (Zr.trans (Zr.rf) (Zr.up (by decide) hf521)) (Zr.up (by decide) hf523)) (Zr.up (by decide) hf524)) (Zr.up (by decide) f9)))
    refine z_X9_makeOrThrow k4 hk522 53 rfl μ7 (0 : Int32) (fun μ8 hf528 => ?_) (fun E9 μ9 e9 f9 => hX E9 μ9 (ex_sub (by decide) e9) (Zr.trans (Zr.trans (Zr.trans (Zr.trans (Zr.trans (Zr.rf) (Zr.up (by decide) hf521)) (Zr.up (by decide) hf523)) (Zr.up (by decide) hf524)) (Zr.up (by decide) hf527)) (Zr.up (by decide) f9)))
    refine f_X5_isSameAs 51 rfl 53 rfl μ8 (fun r9 b529 => ?_)
    refine ⟨(by first | assumption | exact Or.inl rfl | exact Or.inr rfl | exact isB_or (by assumption) (by first | assumption | exact Or.inl rfl | exact Or.inr rfl)), ?_⟩
    exact h _ _ (by first | assumption | exact Or.inl rfl | exact Or.inr rfl | exact isB_or (by assumption) (by first | assumption | exact Or.inl rfl | exact Or.inr rfl)) (Zr.trans (Zr.trans (Zr.trans (Zr.trans (Zr.trans (Zr.rf) (Zr.up (by decide) hf521)) (Zr.up (by decide) hf523)) (Zr.up (by decide) hf524)) (Zr.up (by decide) hf527)) (Zr.up (by decide) hf528))
  · refine z_X9_meetOrThrow k2 hk520 k4 hk522 μ5 (fun μ13 hf530 => ?_) (fun E9 μ9 e9 f9 => hX E9 μ9 (ex_sub (by decide) e9) (Zr.trans (Zr.trans (Zr.trans (Zr.trans (Zr.rf) (Zr.up (by decide) hf521)) (Zr.up (by decide) hf523)) (Zr.up (by decide) hf524)) (Zr.up (by decide) f9)))
    refine ⟨fun c531 => ?_, fun c532 => ?_⟩
    · exact h _ _ (by first | assumption | exact Or.inl rfl | exact Or.inr rfl | exact isB_or (by assumption) (by first | assumption | exact Or.inl rfl | exact Or.inr rfl)) (Zr.trans (Zr.trans (Zr.trans (Zr.trans (Zr.rf) (Zr.up (by decide) hf521)) (Zr.up (by decide) hf523)) (Zr.up (by decide) hf524)) (Zr.up (by decide) hf530))
    · exact h _ _ (by first | assumption | exact Or.inl rfl | exact Or.inr rfl | exact isB_or (by assumption) (by first | assumption | exact Or.inl rfl | exact Or.inr rfl)) (Zr.trans (Zr.trans (Zr.trans (Zr.trans (Zr.rf) (Zr.up (by decide) hf521)) (Zr.up (by decide) hf523)) (Zr.up (by decide) hf524)) (Zr.up (by decide) hf530))
set_option maxHeartbeats 2000000 in
theorem z_X9_pairs (μ : TMem) (a1 : Int32) (a2 : Int32) {Q : Int32 → TMem → Prop} {X : String → TMem → Prop} (h : ∀ (r : Int32) (μ9 : TMem), Zr 2 μ μ9 → Q r μ9) (hX : ∀ (E : String) (μ9 : TMem), E ∈ ex_IS → Zr 2 μ μ9 → X E μ9) : wp_X9_pairs μ a1 a2 Q X := by
  show wp_X9_machineAt μ a1 (fun (k2 : Nat) (μ1 : TMem) => wp_X9_machineAt μ1 a2 (fun (k4 : Nat) (μ3 : TMem) => wp_X9_meetOrThrow k2 k4 μ3 (fun (μ5 : TMem) => Q (μ5 35 8) μ5) X) X) X
  refine z_X9_machineAt μ a1 (fun k2 μ1 hk533 hf534 => ?_) (fun E9 μ9 e9 f9 => hX E9 μ9 (ex_sub (by decide) e9) (Zr.trans (Zr.rf) (Zr.up (by decide) f9)))
  refine z_X9_machineAt μ1 a2 (fun k4 μ3 hk535 hf536 => ?_) (fun E9 μ9 e9 f9 => hX E9 μ9 (ex_sub (by decide) e9) (Zr.trans (Zr.trans (Zr.rf) (Zr.up (by decide) hf534)) (Zr.up (by decide) f9)))
  refine z_X9_meetOrThrow k2 hk533 k4 hk535 μ3 (fun μ5 hf537 => ?_) (fun E9 μ9 e9 f9 => hX E9 μ9 (ex_sub (by decide) e9) (Zr.trans (Zr.trans (Zr.trans (Zr.rf) (Zr.up (by decide) hf534)) (Zr.up (by decide) hf536)) (Zr.up (by decide) f9)))
  exact h _ _ (Zr.trans (Zr.trans (Zr.trans (Zr.rf) (Zr.up (by decide) hf534)) (Zr.up (by decide) hf536)) (Zr.up (by decide) hf537))
set_option maxHeartbeats 2000000 in
theorem z_X9_together (μ : TMem) (a1 : Int32) (a2 : Int32) (a3 : Int32) (a4 : Int32) {Q : Int32 → TMem → Prop} {X : String → TMem → Prop} (h : ∀ (r : Int32) (μ9 : TMem), Zr 2 μ μ9 → Q r μ9) (hX : ∀ (E : String) (μ9 : TMem), E ∈ ex_IAS → Zr 2 μ μ9 → X E μ9) : wp_X9_together μ a1 a2 a3 a4 Q X := by
  show wp_X9_machineAt μ a1 (fun (k2 : Nat) (μ1 : TMem) => wp_X9_machineAt μ1 a2 (fun (k4 : Nat) (μ3 : TMem) => wp_X9_checkRange μ3 a3 (0 : Int32) (3 : Int32) (fun (μ5 : TMem) => wp_X9_checkRange μ5 a4 (-1 : Int32) (12 : Int32) (fun (μ6 : TMem) => wp_X9_putTogether k2 k4 μ6 a3 (fun (r8 : Int32) (μ7 : TMem) => (¬ r8 = 0 → ((¬ a4 = (-1 : Int32) → (wp_X8_count 57 μ7 (fun (μ11 : TMem) => wp_X8_from μ11 (0 : Int32) a4 (fun (r12 : Int32) => Q r12 μ11)))) ∧ (a4 = (-1 : Int32) → (Q (μ7 57 1) μ7)))) ∧ (r8 = 0 → (X "java/lang/IllegalStateException" μ7)))) X) X) X) X
  refine z_X9_machineAt μ a1 (fun k2 μ1 hk538 hf539 => ?_) (fun E9 μ9 e9 f9 => hX E9 μ9 (ex_sub (by decide) e9) (Zr.trans (Zr.rf) (Zr.up (by decide) f9)))
  refine z_X9_machineAt μ1 a2 (fun k4 μ3 hk540 hf541 => ?_) (fun E9 μ9 e9 f9 => hX E9 μ9 (ex_sub (by decide) e9) (Zr.trans (Zr.trans (Zr.rf) (Zr.up (by decide) hf539)) (Zr.up (by decide) f9)))
  refine z_X9_checkRange μ3 a3 (0 : Int32) (3 : Int32) (fun μ5 hf542 => ?_) (fun E9 μ9 e9 f9 => hX E9 μ9 (ex_sub (by decide) e9) (Zr.trans (Zr.trans (Zr.trans (Zr.rf) (Zr.up (by decide) hf539)) (Zr.up (by decide) hf541)) (Zr.up (by decide) f9)))
  refine z_X9_checkRange μ5 a4 (-1 : Int32) (12 : Int32) (fun μ6 hf543 => ?_) (fun E9 μ9 e9 f9 => hX E9 μ9 (ex_sub (by decide) e9) (Zr.trans (Zr.trans (Zr.trans (Zr.trans (Zr.rf) (Zr.up (by decide) hf539)) (Zr.up (by decide) hf541)) (Zr.up (by decide) hf542)) (Zr.up (by decide) f9)))
  refine z_X9_putTogether k2 hk538 k4 hk540 μ6 a3 (fun r8 μ7 b544 hf545 => ?_)
  refine ⟨fun c546 => ?_, fun c547 => ?_⟩
  · refine ⟨fun c548 => ?_, fun c549 => ?_⟩
    · refine z_X8_count 57 rfl μ7 (fun μ11 hf550 => ?_)
      refine f_X8_from μ11 (0 : Int32) a4 (fun r12 => ?_)
      exact h _ _ (Zr.trans (Zr.trans (Zr.trans (Zr.trans (Zr.trans (Zr.trans (Zr.rf) (Zr.up (by decide) hf539)) (Zr.up (by decide) hf541)) (Zr.up (by decide) hf542)) (Zr.up (by decide) hf543)) (Zr.up (by decide) hf545)) (Zr.up (by decide) hf550))
    · exact h _ _ (Zr.trans (Zr.trans (Zr.trans (Zr.trans (Zr.trans (Zr.rf) (Zr.up (by decide) hf539)) (Zr.up (by decide) hf541)) (Zr.up (by decide) hf542)) (Zr.up (by decide) hf543)) (Zr.up (by decide) hf545))
  · exact hX _ _ (by decide) (Zr.trans (Zr.trans (Zr.trans (Zr.trans (Zr.trans (Zr.rf) (Zr.up (by decide) hf539)) (Zr.up (by decide) hf541)) (Zr.up (by decide) hf542)) (Zr.up (by decide) hf543)) (Zr.up (by decide) hf545))
set_option maxHeartbeats 2000000 in
theorem z_X9_isSound (μ : TMem)  {Q : Int32 → TMem → Prop} {X : String → TMem → Prop} (h : ∀ (r : Int32) (μ9 : TMem), isB r → Zr 2 μ μ9 → Q r μ9) (hX : ∀ (E : String) (μ9 : TMem), E ∈ ex_ → Zr 2 μ μ9 → X E μ9) : wp_X9_isSound μ Q X := by
  show wp_X9_machineAt μ (0 : Int32) (fun (k2 : Nat) (μ1 : TMem) => wp_X3_makeBy k2 57 μ1 (0 : Int32) (fun (r4 : Int32) (μ3 : TMem) => (¬ r4 = 0 → (wp_X3_makeBy k2 51 μ3 (1 : Int32) (fun (r7 : Int32) (μ6 : TMem) => (r7 = 0 → (Q (0 : Int32) μ6)) ∧ (¬ r7 = 0 → (wp_X5_isSameAs 51 57 μ6 (fun (r9 : Int32) => (¬ r9 = 0 → (wp_X3_makeBy k2 51 μ6 (2 : Int32) (fun (r14 : Int32) (μ13 : TMem) => (r14 = 0 → (wp_X2_becomePlain 12 57 μ13 (fun (μ16 : TMem) => wp_X3_makeBy 12 51 μ16 (0 : Int32) (fun (r18 : Int32) (μ17 : TMem) => (r18 = 0 → (Q (0 : Int32) μ17)) ∧ (¬ r18 = 0 → (wp_X5_isSameAs 51 57 μ17 (fun (r20 : Int32) => (¬ r20 = 0 → (wp_X9_isTakingTheSame k2 μ17 (fun (r24 : Int32) => isB r24 ∧ Q r24 μ17))) ∧ (r20 = 0 → (Q (0 : Int32) μ17))))))))) ∧ (¬ r14 = 0 → (wp_X5_isSameAs 51 57 μ13 (fun (r28 : Int32) => (¬ r28 = 0 → (wp_X2_becomePlain 12 57 μ13 (fun (μ32 : TMem) => wp_X3_makeBy 12 51 μ32 (0 : Int32) (fun (r34 : Int32) (μ33 : TMem) => (r34 = 0 → (Q (0 : Int32) μ33)) ∧ (¬ r34 = 0 → (wp_X5_isSameAs 51 57 μ33 (fun (r36 : Int32) => (¬ r36 = 0 → (wp_X9_isTakingTheSame k2 μ33 (fun (r40 : Int32) => isB r40 ∧ Q r40 μ33))) ∧ (r36 = 0 → (Q (0 : Int32) μ33))))))))) ∧ (r28 = 0 → (Q (0 : Int32) μ13)))))))) ∧ (r9 = 0 → (Q (0 : Int32) μ6)))))))) ∧ (r4 = 0 → (Q (1 : Int32) μ3)))) X
  refine z_machineAt0 μ (fun k2 μ1 hk556 hf557 => ?_)
  refine z_X3_makeBy k2 hk556 57 rfl μ1 (0 : Int32) (fun r4 μ3 b558 hf559 => ?_)
  refine ⟨fun c560 => ?_, fun c561 => ?_⟩
  · refine z_X3_makeBy k2 hk556 51 rfl μ3 (1 : Int32) (fun r7 μ6 b562 hf563 => ?_)
    refine ⟨fun c564 => ?_, fun c565 => ?_⟩
    · exact h _ _ (by first | assumption | exact Or.inl rfl | exact Or.inr rfl | exact isB_or (by assumption) (by first | assumption | exact Or.inl rfl | exact Or.inr rfl)) (Zr.trans (Zr.trans (Zr.trans (Zr.rf) (Zr.up (by decide) hf557)) (Zr.up (by decide) hf559)) (Zr.up (by decide) hf563))
    · refine f_X5_isSameAs 51 rfl 57 rfl μ6 (fun r9 b566 => ?_)
      refine ⟨fun c567 => ?_, fun c568 => ?_⟩
      · refine z_X3_makeBy k2 hk556 51 rfl μ6 (2 : Int32) (fun r14 μ13 b569 hf570 => ?_)
        refine ⟨fun c571 => ?_, fun c572 => ?_⟩
        · refine z_X2_becomePlain 12 ⟨rfl, by decide⟩ 57 rfl μ13 (fun μ16 hf573 => ?_)
          refine z_X3_makeBy 12 rfl 51 rfl μ16 (0 : Int32) (fun r18 μ17 b574 hf575 => ?_)
          refine ⟨fun c576 => ?_, fun c577 => ?_⟩
          · exact h _ _ (by first | assumption | exact Or.inl rfl | exact Or.inr rfl | exact isB_or (by assumption) (by first | assumption | exact Or.inl rfl | exact Or.inr rfl)) (Zr.trans (Zr.trans (Zr.trans (Zr.trans (Zr.trans (Zr.trans (Zr.rf) (Zr.up (by decide) hf557)) (Zr.up (by decide) hf559)) (Zr.up (by decide) hf563)) (Zr.up (by decide) hf570)) (Zr.up (by decide) hf573)) (Zr.up (by decide) hf575))
          · refine f_X5_isSameAs 51 rfl 57 rfl μ17 (fun r20 b578 => ?_)
            refine ⟨fun c579 => ?_, fun c580 => ?_⟩
            · refine f_X9_isTakingTheSame k2 hk556 μ17 (fun r24 b581 => ?_)
              refine ⟨(by first | assumption | exact Or.inl rfl | exact Or.inr rfl | exact isB_or (by assumption) (by first | assumption | exact Or.inl rfl | exact Or.inr rfl)), ?_⟩
              exact h _ _ (by first | assumption | exact Or.inl rfl | exact Or.inr rfl | exact isB_or (by assumption) (by first | assumption | exact Or.inl rfl | exact Or.inr rfl)) (Zr.trans (Zr.trans (Zr.trans (Zr.trans (Zr.trans (Zr.trans (Zr.rf) (Zr.up (by decide) hf557)) (Zr.up (by decide) hf559)) (Zr.up (by decide) hf563)) (Zr.up (by decide) hf570)) (Zr.up (by decide) hf573)) (Zr.up (by decide) hf575))
            · exact h _ _ (by first | assumption | exact Or.inl rfl | exact Or.inr rfl | exact isB_or (by assumption) (by first | assumption | exact Or.inl rfl | exact Or.inr rfl)) (Zr.trans (Zr.trans (Zr.trans (Zr.trans (Zr.trans (Zr.trans (Zr.rf) (Zr.up (by decide) hf557)) (Zr.up (by decide) hf559)) (Zr.up (by decide) hf563)) (Zr.up (by decide) hf570)) (Zr.up (by decide) hf573)) (Zr.up (by decide) hf575))
        · refine f_X5_isSameAs 51 rfl 57 rfl μ13 (fun r28 b582 => ?_)
          refine ⟨fun c583 => ?_, fun c584 => ?_⟩
          · refine z_X2_becomePlain 12 ⟨rfl, by decide⟩ 57 rfl μ13 (fun μ32 hf585 => ?_)
            refine z_X3_makeBy 12 rfl 51 rfl μ32 (0 : Int32) (fun r34 μ33 b586 hf587 => ?_)
            refine ⟨fun c588 => ?_, fun c589 => ?_⟩
            · exact h _ _ (by first | assumption | exact Or.inl rfl | exact Or.inr rfl | exact isB_or (by assumption) (by first | assumption | exact Or.inl rfl | exact Or.inr rfl)) (Zr.trans (Zr.trans (Zr.trans (Zr.trans (Zr.trans (Zr.trans (Zr.rf) (Zr.up (by decide) hf557)) (Zr.up (by decide) hf559)) (Zr.up (by decide) hf563)) (Zr.up (by decide) hf570)) (Zr.up (by decide) hf585)) (Zr.up (by decide) hf587))
            · refine f_X5_isSameAs 51 rfl 57 rfl μ33 (fun r36 b590 => ?_)
              refine ⟨fun c591 => ?_, fun c592 => ?_⟩
              · refine f_X9_isTakingTheSame k2 hk556 μ33 (fun r40 b593 => ?_)
                refine ⟨(by first | assumption | exact Or.inl rfl | exact Or.inr rfl | exact isB_or (by assumption) (by first | assumption | exact Or.inl rfl | exact Or.inr rfl)), ?_⟩
                exact h _ _ (by first | assumption | exact Or.inl rfl | exact Or.inr rfl | exact isB_or (by assumption) (by first | assumption | exact Or.inl rfl | exact Or.inr rfl)) (Zr.trans (Zr.trans (Zr.trans (Zr.trans (Zr.trans (Zr.trans (Zr.rf) (Zr.up (by decide) hf557)) (Zr.up (by decide) hf559)) (Zr.up (by decide) hf563)) (Zr.up (by decide) hf570)) (Zr.up (by decide) hf585)) (Zr.up (by decide) hf587))
              · exact h _ _ (by first | assumption | exact Or.inl rfl | exact Or.inr rfl | exact isB_or (by assumption) (by first | assumption | exact Or.inl rfl | exact Or.inr rfl)) (Zr.trans (Zr.trans (Zr.trans (Zr.trans (Zr.trans (Zr.trans (Zr.rf) (Zr.up (by decide) hf557)) (Zr.up (by decide) hf559)) (Zr.up (by decide) hf563)) (Zr.up (by decide) hf570)) (Zr.up (by decide) hf585)) (Zr.up (by decide) hf587))
          · exact h _ _ (by first | assumption | exact Or.inl rfl | exact Or.inr rfl | exact isB_or (by assumption) (by first | assumption | exact Or.inl rfl | exact Or.inr rfl)) (Zr.trans (Zr.trans (Zr.trans (Zr.trans (Zr.rf) (Zr.up (by decide) hf557)) (Zr.up (by decide) hf559)) (Zr.up (by decide) hf563)) (Zr.up (by decide) hf570))
      · exact h _ _ (by first | assumption | exact Or.inl rfl | exact Or.inr rfl | exact isB_or (by assumption) (by first | assumption | exact Or.inl rfl | exact Or.inr rfl)) (Zr.trans (Zr.trans (Zr.trans (Zr.rf) (Zr.up (by decide) hf557)) (Zr.up (by decide) hf559)) (Zr.up (by decide) hf563))
  · exact h _ _ (by first | assumption | exact Or.inl rfl | exact Or.inr rfl | exact isB_or (by assumption) (by first | assumption | exact Or.inl rfl | exact Or.inr rfl)) (Zr.trans (Zr.trans (Zr.rf) (Zr.up (by decide) hf557)) (Zr.up (by decide) hf559))
set_option maxHeartbeats 2000000 in
theorem z_X9_digest (μ : TMem)  {Q : Int64 → TMem → Prop} {X : String → TMem → Prop} (h : ∀ (r : Int64) (μ9 : TMem), Zr 2 μ μ9 → Q r μ9) (hX : ∀ (E : String) (μ9 : TMem), E ∈ ex_ → Zr 2 μ μ9 → X E μ9) : wp_X9_digest μ Q X := by
  show ∃ n0x, wpl_X9_digest_6 μ (fun (u10 : Int64) => wp_X9_isSound μ (fun (r12 : Int32) (μ11 : TMem) => (r12 = 0 → (Q ((((((((u10 * (31 : Int64)) + (μ 0 11).toInt64) * (31 : Int64)) + (μ 0 12).toInt64) * (31 : Int64)) + (μ 0 13).toInt64) * (31 : Int64)) + (0 : Int32).toInt64) μ11)) ∧ (¬ r12 = 0 → (Q ((((((((u10 * (31 : Int64)) + (μ 0 11).toInt64) * (31 : Int64)) + (μ 0 12).toInt64) * (31 : Int64)) + (μ 0 13).toInt64) * (31 : Int64)) + (1 : Int32).toInt64) μ11))) X) n0x (0 : Int32) (8025 : Int64)
  refine ⟨_, fl_wpl_X9_digest_6 μ ?_ _ (0 : Int32) (8025 : Int64) (Nat.lt_succ_self _) (by first | decide | omega)⟩
  · intro u10
    refine z_X9_isSound μ (fun r12 μ11 b595 hf596 => ?_) (fun E9 μ9 e9 f9 => hX E9 μ9 e9 (Zr.trans (Zr.rf) (Zr.up (by decide) f9)))
    refine ⟨fun c597 => ?_, fun c598 => ?_⟩
    · exact h _ _ (Zr.trans (Zr.rf) (Zr.up (by decide) hf596))
    · exact h _ _ (Zr.trans (Zr.rf) (Zr.up (by decide) hf596))
theorem y_numberOf (k2 : Nat) (hk2 : kd k2 = 5) (μ : TMem) (a1 : Int32) {Q : Int32 → TMem → Prop} (hS : (μ k2 1).toInt ≤ 32) (h : ∀ (r : Int32) (μ9 : TMem), Zr 2 μ μ9 → (μ9 k2 1).toInt ≤ 32 → Q r μ9) : wp_X3_numberOf k2 μ a1 Q := by
  unfold wp_X3_numberOf
  refine f_X6_find 16 rfl μ a1 (μ k2 1) (fun r1 => ⟨fun _ => h _ _ Zr.rf hS, fun _ => ⟨fun c => ?_, fun _ => h _ _ Zr.rf hS⟩⟩)
  refine z_X6_put 16 rfl μ (μ k2 1) a1 (Or.inl (by decide)) (fun μ6 f6 => h _ _ (zt2 (zu2 f6) hk2) ?_)
  rw [tms_at, zk5 hk2 f6]
  have c1 := l_lt.mp c
  rw [show (32 : Int32).toInt = 32 from rfl] at c1
  have := inc_b (x := μ k2 1) (b := 31) (by omega) (by omega)
  omega
theorem y_makeOneWay_78 (μ0 : TMem) (k1 : Nat) (hk1 : kd k1 = 2) (k2 : Nat) (hk2 : kd k2 = 5) (v15 : Int32) (v16 : Int32) {K122 : TMem → Prop} {Q : Int32 → TMem → Prop} (hK122 : ∀ (u0 : TMem), Zr 2 μ0 u0 → (u0 k2 1).toInt ≤ 32 → K122 u0) (h : ∀ (r : Int32) (μ9 : TMem), isB r → Zr 2 μ0 μ9 → (μ9 k2 1).toInt ≤ 32 → Q r μ9) : ∀ (n : Nat) (v14 : Int32) (μ17 : TMem), (((3 : Int32)).toInt - (v14).toInt).toNat < n → 0 ≤ (v14).toInt → Zr 2 μ0 μ17 → (μ17 k2 1).toInt ≤ 32 → wpl_X3_makeOneWay_78 k1 k2 v15 v16 K122 Q n v14 μ17 := by
  intro n
  induction n with
  | zero => intro v14 μ17 hm; exact absurd hm (Nat.not_lt_zero _)
  | succ n ih =>
    intro v14 μ17 hm hi hF hS
    refine ⟨fun c_ex => hK122 μ17 hF hS, fun c_lt => ?_⟩
    refine f_X2_reach k1 hk1 μ17 v15 v14 (fun r19 => ?_)
    refine y_numberOf k2 hk2 μ17 r19 hS (fun r23 μ22 f22 hS2 => ?_)
    refine ⟨fun _ => ?_, fun _ => h _ _ (Or.inl rfl) (hF.trans f22) hS2⟩
    refine z_X7_put k2 ⟨Or.inr hk2, kd5' hk2⟩ μ22 v16 v14 r23 (fun μ25 f25 => ?_)
    exact ih (v14 + (1 : Int32)) μ25 (lt_m c_lt (by omega)) (lt_p hi c_lt) ((hF.trans f22).trans (zu2 f25)) (by rw [zk5 hk2 f25]; exact hS2)
theorem y_makeOneWay_24 (μ0 : TMem) (k1 : Nat) (hk1 : kd k1 = 2) (k2 : Nat) (hk2 : kd k2 = 5) {Q : Int32 → TMem → Prop} (h : ∀ (r : Int32) (μ9 : TMem), isB r → Zr 2 μ0 μ9 → (μ9 k2 1).toInt ≤ 32 → Q r μ9) : ∀ (n : Nat) (v3 : Int32) (μ4 : TMem), (((32 : Int32)).toInt - (v3).toInt).toNat < n → 0 ≤ (v3).toInt → Zr 2 μ0 μ4 → (μ4 k2 1).toInt ≤ 32 → wpl_X3_makeOneWay_24 k1 k2 Q n v3 μ4 := by
  intro n
  induction n with
  | zero => intro v3 μ4 hm; exact absurd hm (Nat.not_lt_zero _)
  | succ n ih =>
    intro v3 μ4 hm hi hF hS
    refine ⟨fun c_ex => h _ _ (Or.inr rfl) hF hS, fun c_lt => ⟨fun _ => h _ _ (Or.inr rfl) hF hS, fun _ => ?_⟩⟩
    refine f_X6_at 16 rfl μ4 v3 (fun r7 => ?_)
    have key : ∀ j11 : Int32, wp_X9_withOrWithout (μ4 k2 2) v3 j11 (fun (r12 : Int32) => ∃ n12x, wpl_X3_makeOneWay_78 k1 k2 r7 v3 (fun (μ27 : TMem) => wpl_X3_makeOneWay_24 k1 k2 Q n (v3 + (1 : Int32)) μ27) Q n12x (0 : Int32) (tms μ4 k2 2 r12)) := fun j11 => by
      refine f_X9_withOrWithout (μ4 k2 2) v3 j11 (fun r12 => ?_)
      have hS3 : ((tms μ4 k2 2 r12) k2 1).toInt ≤ 32 := by rw [tms_o (by decide)]; exact hS
      exact ⟨_, y_makeOneWay_78 μ0 k1 hk1 k2 hk2 r7 v3 (fun μ27 f27 hS27 => ih (v3 + (1 : Int32)) μ27 (lt_m c_lt (by omega)) (lt_p hi c_lt) f27 hS27) h _ (0 : Int32) _ (Nat.lt_succ_self _) (by decide) (zt2 hF hk2) hS3⟩
    intro J10 hJ10
    exact ⟨fun _ => hJ10 _ (key _), fun _ => hJ10 _ (key _)⟩
theorem y_makeOneWay (k1 : Nat) (hk1 : kd k1 = 2) (k2 : Nat) (hk2 : kd k2 = 5) (μ : TMem) {Q : Int32 → TMem → Prop} (h : ∀ (r : Int32) (μ9 : TMem), isB r → Zr 2 μ μ9 → (μ9 k2 1).toInt ≤ 32 → Q r μ9) : wp_X3_makeOneWay k1 k2 μ Q := by
  refine z_X6_put 16 rfl μ (0 : Int32) (μ k1 3) (Or.inl (by decide)) (fun μ1 f1 => ?_)
  exact ⟨_, y_makeOneWay_24 μ k1 hk1 k2 hk2 h _ (0 : Int32) _ (Nat.lt_succ_self _) (by decide) (zt2 (zt2 (zu2 f1) hk2) hk2) (by rw [tms_o (by decide), tms_at]; decide)⟩
theorem y_groupNumber (k2 : Nat) (hk2 : kd k2 = 5) (μ : TMem) (a1 : Int32) {Q : Int32 → TMem → Prop} {b : Int} (hb : 0 ≤ b) (hb2 : b < 1000) (hS : (μ k2 1).toInt ≤ b) (h : ∀ (r : Int32) (μ9 : TMem), Zr 2 μ μ9 → (μ9 k2 1).toInt ≤ b + 1 → Q r μ9) : wp_X3_groupNumber k2 μ a1 Q := by
  unfold wp_X3_groupNumber
  refine f_X1_partOf μ a1 (fun r1 => ?_)
  refine f_X6_at 20 rfl μ r1 (fun r4 => ?_)
  intro J7 hJ7
  refine ⟨fun _ => ?_, fun _ => ?_⟩
  · exact f_X6_at 20 rfl μ r1 (fun r13 => h _ _ Zr.rf (by omega))
  · refine z_X6_put 20 rfl μ r1 (μ k2 1) (Or.inl (by decide)) (fun μ16 f16 => ?_)
    refine z_X6_put 18 rfl μ16 (μ16 k2 1) a1 (Or.inl (by decide)) (fun μ17 f17 => ?_)
    refine hJ7 _ ?_
    refine f_X6_at 20 rfl _ r1 (fun r9 => h _ _ (zt2 (zu2 (f16.trans f17)) hk2) ?_)
    rw [tms_at, zk5 hk2 (f16.trans f17)]
    exact inc_b hS (by omega)
theorem y_makeGroups_90 (μ0 : TMem) (k1 : Nat) (hk1 : kd k1 = 5) (k2 : Nat) (hk2 : kd k2 = 5) (v21 : Int32) (v22 : Int32) (b : Int) (hb : 0 ≤ b) (hb2 : b < 500) {K122 : TMem → Prop} (hK122 : ∀ (u0 : TMem), Zr 2 μ0 u0 → (u0 k2 1).toInt ≤ b + 3 → K122 u0) : ∀ (n : Nat) (v20 : Int32) (μ23 : TMem), (((3 : Int32)).toInt - (v20).toInt).toNat < n → 0 ≤ (v20).toInt → v20.toInt ≤ 3 → Zr 2 μ0 μ23 → (μ23 k2 1).toInt ≤ b + v20.toInt → wpl_X3_makeGroups_90 k1 k2 v21 v22 K122 n v20 μ23 := by
  intro n
  induction n with
  | zero => intro v20 μ23 hm; exact absurd hm (Nat.not_lt_zero _)
  | succ n ih =>
    intro v20 μ23 hm hi h3 hF hS
    refine ⟨fun c_ex => hK122 μ23 hF (by omega), fun c_lt => ?_⟩
    have c1 := nle c_lt
    have e1 := inc_i c_lt
    rw [show (3 : Int32).toInt = 3 from rfl] at c1
    refine f_X7_at k1 (Or.inr hk1) μ23 v21 v20 (fun r25 => ?_)
    refine y_groupNumber k2 hk2 μ23 r25 (b := b + v20.toInt) (by omega) (by omega) hS (fun r29 μ28 f28 hS2 => ?_)
    refine z_X7_put k2 ⟨Or.inr hk2, kd5' hk2⟩ μ28 v22 v20 r29 (fun μ30 f30 => ?_)
    exact ih (v20 + (1 : Int32)) μ30 (lt_m c_lt (by omega)) (lt_p hi c_lt) (by omega) ((hF.trans f28).trans (zu2 f30)) (by rw [zk5 hk2 f30]; omega)
theorem y_makeGroups_45 (μ0 : TMem) (k1 : Nat) (hk1 : kd k1 = 5) (k2 : Nat) (hk2 : kd k2 = 5) {Q : TMem → Prop} (h : ∀ μ9 : TMem, Zr 2 μ0 μ9 → (μ9 k2 1).toInt ≤ 97 → Q μ9) : ∀ (n : Nat) (v8 : Int32) (μ9 : TMem), (((32 : Int32)).toInt - (v8).toInt).toNat < n → 0 ≤ (v8).toInt → v8.toInt ≤ 32 → Zr 2 μ0 μ9 → (μ9 k2 1).toInt ≤ 1 + 3 * v8.toInt → wpl_X3_makeGroups_45 k1 k2 Q n v8 μ9 := by
  intro n
  induction n with
  | zero => intro v8 μ9 hm; exact absurd hm (Nat.not_lt_zero _)
  | succ n ih =>
    intro v8 μ9 hm hi h32 hF hS
    refine ⟨fun c_ex => h _ hF (by omega), fun c_lt => ⟨fun _ => h _ hF (by omega), fun _ => ?_⟩⟩
    have c1 := nle c_lt
    have e1 := inc_i c_lt
    rw [show (32 : Int32).toInt = 32 from rfl] at c1
    refine f_X6_at 18 rfl μ9 v8 (fun r12 => ?_)
    refine f_X5_isGoal k1 hk1 μ9 r12 (fun r15 b152 => ?_)
    refine f_X9_withOrWithout (μ9 k2 2) v8 r15 (fun r18 => ?_)
    have hS3 : ((tms μ9 k2 2 r18) k2 1).toInt ≤ 1 + 3 * v8.toInt + (0 : Int32).toInt := by rw [tms_o (by decide), ii_0]; omega
    exact ⟨_, y_makeGroups_90 μ0 k1 hk1 k2 hk2 r12 v8 (1 + 3 * v8.toInt) (by omega) (by omega) (fun μ32 f32 hS32 => ih (v8 + (1 : Int32)) μ32 (lt_m c_lt (by omega)) (lt_p hi c_lt) (by omega) f32 (by omega)) _ (0 : Int32) _ (Nat.lt_succ_self _) (by decide) (by decide) (zt2 hF hk2) hS3⟩
theorem y_makeGroups (k1 : Nat) (hk1 : kd k1 = 5) (k2 : Nat) (hk2 : kd k2 = 5) (μ : TMem) {Q : TMem → Prop} (h : ∀ μ9 : TMem, Zr 2 μ μ9 → (μ9 k2 1).toInt ≤ 97 → Q μ9) : wp_X3_makeGroups k1 k2 μ Q := by
  refine z_X6_fill 20 rfl μ (-1 : Int32) (by decide) (fun μ1 f1 => ?_)
  refine f_X1_partOf μ1 (0 : Int32) (fun r2 => ?_)
  refine z_X6_put 20 rfl μ1 r2 (0 : Int32) (Or.inl (by decide)) (fun μ5 f5 => ?_)
  refine z_X6_put 18 rfl μ5 (0 : Int32) (0 : Int32) (Or.inl (by decide)) (fun μ6 f6 => ?_)
  exact ⟨_, y_makeGroups_45 μ k1 hk1 k2 hk2 h _ (0 : Int32) _ (Nat.lt_succ_self _) (by decide) (by decide) (zt2 (zt2 (zu2 ((f1.trans f5).trans f6)) hk2) hk2) (by rw [tms_o (by decide), tms_at]; decide)⟩
theorem y_makeByTurning (k1 : Nat) (hk1 : kd k1 = 2) (k2 : Nat) (hk2 : kd k2 = 5) (μ : TMem) {Q : Int32 → TMem → Prop} (h : ∀ (r : Int32) (μ9 : TMem), isB r → Zr 2 μ μ9 → (r ≠ 0 → (μ9 k2 1).toInt ≤ 97) → Q r μ9) : wp_X3_makeByTurning k1 k2 μ Q := by
  refine z_X2_becomeRound 31 ⟨rfl, by decide⟩ k1 hk1 μ (fun μ1 f1 => ?_)
  refine z_X3_makeOneWay 31 rfl 33 rfl μ1 (fun r3 μ2 b2 f2 => ⟨fun _ => ?_, fun _ => h _ _ (Or.inl rfl) (f1.trans f2) (fun z => absurd rfl z)⟩)
  refine z_X2_becomePlain 29 ⟨rfl, by decide⟩ 33 rfl μ2 (fun μ5 f5 => ?_)
  refine z_X2_becomeRound 31 ⟨rfl, by decide⟩ 29 rfl μ5 (fun μ6 f6 => ?_)
  exact y_makeOneWay 31 rfl k2 hk2 μ6 (fun r8 μ7 b8 f7 hS => ⟨b8, h _ _ b8 ((((f1.trans f2).trans f5).trans f6).trans f7) (fun _ => by omega)⟩)
theorem y_makeBy (k2 : Nat) (hk2 : kd k2 = 2) (k3 : Nat) (hk3 : kd k3 = 5) (μ : TMem) (a1 : Int32) {Q : Int32 → TMem → Prop} (h : ∀ (r : Int32) (μ9 : TMem), isB r → Zr 2 μ μ9 → (r ≠ 0 → (μ9 k3 1).toInt ≤ 97) → Q r μ9) : wp_X3_makeBy k2 k3 μ a1 Q := by
  refine ⟨fun _ => ⟨fun _ => ?_, fun _ => ?_⟩, fun _ => ?_⟩
  · refine z_X3_makeOneWay k2 hk2 33 rfl μ (fun r4 μ3 b4 f3 => ⟨fun _ => ?_, fun _ => h _ _ (Or.inl rfl) f3 (fun z => absurd rfl z)⟩)
    intro J6 hJ6
    refine ⟨fun _ => ?_, fun _ => ?_⟩
    · refine z_X1_findByParting 33 rfl μ3 (fun μ10 f10 => hJ6 μ10 ?_)
      exact y_makeGroups 33 rfl k3 hk3 μ10 (fun μ8 f8 hS => h _ _ (Or.inr rfl) ((f3.trans (zu2 f10)).trans f8) (fun _ => hS))
    · refine z_X1_findByPairs 33 rfl μ3 (fun μ10 f10 => hJ6 μ10 ?_)
      exact y_makeGroups 33 rfl k3 hk3 μ10 (fun μ8 f8 hS => h _ _ (Or.inr rfl) ((f3.trans (zu2 f10)).trans f8) (fun _ => hS))
  · exact y_makeByTurning k2 hk2 k3 hk3 μ (fun r μ9 b9 f9 hS => ⟨b9, h _ _ b9 f9 hS⟩)
  · exact y_makeOneWay k2 hk2 k3 hk3 μ (fun r μ9 b9 f9 hS => ⟨b9, h _ _ b9 f9 (fun _ => by omega)⟩)
theorem y_makeOrThrow (k2 : Nat) (hk2 : kd k2 = 2) (k3 : Nat) (hk3 : kd k3 = 5) (μ : TMem) (a1 : Int32) {Q : TMem → Prop} {X : String → TMem → Prop} (h : ∀ μ9 : TMem, Zr 2 μ μ9 → (μ9 k3 1).toInt ≤ 97 → Q μ9) (hX : ∀ (E : String) (μ9 : TMem), E ∈ ex_S → Zr 2 μ μ9 → X E μ9) : wp_X9_makeOrThrow k2 k3 μ a1 Q X :=
  y_makeBy k2 hk2 k3 hk3 μ a1 (fun r μ9 b9 f9 hS => ⟨fun c => h _ f9 (hS c), fun _ => hX _ _ (by decide) f9⟩)
theorem z_X9_text (μ : TMem) (a1 : Int32) (a2 : Int32) {Q : TMem → Prop} {X : String → TMem → Prop} (h : ∀ μ9 : TMem, Zr 2 μ μ9 → Q μ9) (hX : ∀ (E : String) (μ9 : TMem), E ∈ ex_IAS → Zr 2 μ μ9 → X E μ9) : wp_X9_text μ a1 a2 Q X := by
  refine z_X9_machineAt μ a1 (fun k2 μ1 hk2 f1 => ?_) (fun E μ9 e9 f9 => hX E μ9 (ex_sub (by decide) e9) (zu2 f9))
  refine z_X9_checkRange μ1 a2 (0 : Int32) (3 : Int32) (fun μ3 f3 => ?_) (fun E μ9 e9 f9 => hX E μ9 (ex_sub (by decide) e9) (zu2 (f1.trans f9)))
  exact y_makeOrThrow k2 hk2 57 rfl μ3 a2 (fun μ4 f4 hS => ⟨by omega, h _ ((zu2 (f1.trans f3)).trans f4)⟩) (fun E μ9 e9 f9 => hX E μ9 (ex_sub (by decide) e9) ((zu2 (f1.trans f3)).trans f9))
theorem z_X9_word (μ : TMem) (a1 : Int32) (a2 : Int32) {Q : TMem → Prop} {X : String → TMem → Prop} (h : ∀ μ9 : TMem, Zr 2 μ μ9 → Q μ9) (hX : ∀ (E : String) (μ9 : TMem), E ∈ ex_IAS → Zr 2 μ μ9 → X E μ9) : wp_X9_word μ a1 a2 Q X := by
  refine z_X9_machineAt μ a1 (fun k2 μ1 hk2 f1 => ?_) (fun E μ9 e9 f9 => hX E μ9 (ex_sub (by decide) e9) (zu2 f9))
  refine ⟨fun _ => ?_, fun _ => hX _ _ (by decide) (zu2 f1)⟩
  refine z_X9_makeOrThrow k2 hk2 57 rfl μ1 (0 : Int32) (fun μ4 f4 => ?_) (fun E μ9 e9 f9 => hX E μ9 (ex_sub (by decide) e9) ((zu2 f1).trans f9))
  exact z_X8_count 57 rfl μ4 (fun μ5 f5 => h _ (((zu2 f1).trans f4).trans (f5.up (by decide))))
theorem z_X9_apart (μ : TMem) (a1 : Int32) (a2 : Int32) {Q : TMem → Prop} {X : String → TMem → Prop} (hG : GB μ) (h : ∀ μ9 : TMem, Zr 2 μ μ9 → Q μ9) (hX : ∀ (E : String) (μ9 : TMem), E ∈ ex_IS → Zr 2 μ μ9 → X E μ9) : wp_X9_apart μ a1 a2 Q X := by
  refine z_X9_machineAt μ a1 (fun k2 μ1 hk2 f1 => ?_) (fun E μ9 e9 f9 => hX E μ9 (ex_sub (by decide) e9) (zu2 f9))
  refine z_X9_machineAt μ1 a2 (fun k4 μ3 hk4 f3 => ?_) (fun E μ9 e9 f9 => hX E μ9 (ex_sub (by decide) e9) (zu2 (f1.trans f9)))
  refine z_X9_meetOrThrow k2 hk2 k4 hk4 μ3 (fun μ5 f5 => ?_) (fun E μ9 e9 f9 => hX E μ9 (ex_sub (by decide) e9) ((zu2 (f1.trans f3)).trans f9))
  have f9 := (zu2 (f1.trans f3)).trans f5
  exact ⟨fun _ => ⟨f9.1.2 hG, h _ f9⟩, fun _ => h _ f9⟩
end ZFR
