/-! part 83.tlib -/
section
section TOT
/-- what a level keeps: 0 all but arrays and the drawer; 1 states' numbers and the object itself; 2 the object itself; 3 its knocks; 4 nothing of that object's counters -/
def prot : Nat → Nat → Nat → Bool
  | 0, K, _ => !(K == 9 || K == 0)
  | 1, K, i => K == 8 || ((K == 2 || K == 5) && i == 1)
  | 2, K, _ => K == 8
  | 3, K, i => K == 8 && !(i == 11 || i == 12)
  | _, _, _ => false
/-- the signs by which pairs were met: NONE or a SIGN -/
def rng (x : Int32) : Prop := -1 ≤ x.toInt ∧ x.toInt ≤ 2
def GB (μ : TMem) : Prop := ∀ i, rng (μ 43 i)
def Fr (lv : Nat) (μ μ1 : TMem) : Prop := (∀ k i, prot lv (kd k) i = true → μ1 k i = μ k i) ∧ (GB μ → GB μ1)
theorem Fr.rf {lv : Nat} {μ : TMem} : Fr lv μ μ := ⟨fun _ _ _ => rfl, fun h => h⟩
theorem Fr.trans {lv : Nat} {a b c : TMem} (h1 : Fr lv a b) (h2 : Fr lv b c) : Fr lv a c := ⟨fun k i h => (h2.1 k i h).trans (h1.1 k i h), fun h => h2.2 (h1.2 h)⟩
theorem ne43 {k K : Nat} (h : kd k = K) (hK : K ≠ 9) : k ≠ 43 := fun e => hK (by rw [← h, e]; rfl)
theorem ne43b {k : Nat} (h : kd k = 2 ∨ kd k = 5) : k + 1 ≠ 43 := fun e => by
  obtain rfl : k = 42 := by omega
  exact h.elim (fun z => absurd z (by decide)) (fun z => absurd z (by decide))
theorem rng3 {x : Int32} (h0 : 0 ≤ x.toInt) (h : ¬ (3 : Int32) ≤ x) : rng x := by
  rw [Int32.le_iff_toInt_le, show (3 : Int32).toInt = 3 from rfl] at h
  exact ⟨by omega, by omega⟩
theorem prot_up {l1 l2 : Nat} (h : l1 ≤ l2) (K i : Nat) (hp : prot l2 K i = true) : prot l1 K i = true := by
  rcases l2 with _ | _ | _ | _ | l2 <;> rcases l1 with _ | _ | _ | _ | l1 <;> simp_all [prot] <;> omega
theorem Fr.up {l1 l2 : Nat} {a b : TMem} (h : l1 ≤ l2) (h1 : Fr l1 a b) : Fr l2 a b := ⟨fun k i hp => h1.1 k i (prot_up h _ _ hp), h1.2⟩
theorem Fr.st {lv : Nat} {a b : TMem} {k i : Nat} {v : Int32} (h : Fr lv a b) (hp : prot lv (kd k) i = false) (hk : k ≠ 43 ∨ rng v) : Fr lv a (tms b k i v) := ⟨fun k2 i2 h2 => by
  rw [← h.1 k2 i2 h2]
  by_cases e : k2 = k
  · subst e
    have hi : i2 ≠ i := fun z => by rw [z, hp] at h2; cases h2
    simp [tms, upd, hi]
  · simp [tms, e], fun g j => by
  have g2 := h.2 g j
  by_cases e : 43 = k
  · subst e
    by_cases e2 : j = i
    · subst e2
      have hv := hk.resolve_left (fun z => z rfl)
      simpa [tms, upd] using hv
    · simpa [tms, upd, e2] using g2
  · simpa [tms, e] using g2⟩
theorem isB_or {a b : Int32} (ha : isB a) (hb : isB b) : isB (a ||| b) := by
  rcases ha with rfl | rfl <;> rcases hb with rfl | rfl <;> first | exact Or.inl rfl | exact Or.inr rfl
theorem tl_s (k : Nat) : tl k < 2 ^ 31 := by
  by_cases h : k < 59
  · exact (show ∀ k, k < 59 → tl k < 2 ^ 31 by decide +kernel) k h
  · unfold tl
    rw [List.getD_eq_getElem?_getD, List.getElem?_eq_none (show tll.length ≤ k from Nat.not_lt.mp h)]
    decide
theorem vp_b {x : Int32} {n : Nat} (h0 : 0 ≤ x.toInt) (h : ¬ nI n ≤ x) (hn : n < 2 ^ 31) : vp_in x n := by
  rw [vp_in_iff]
  rw [Int32.le_iff_toInt_le, nI_toInt hn] at h
  omega
theorem vp_a {x : Int32} {n : Nat} (h0 : ¬ x < 0) (h : ¬ nI n ≤ x) (hn : n < 2 ^ 31) : vp_in x n := vp_b (by rw [Int32.lt_iff_toInt_lt, Int32.toInt_zero] at h0; omega) h hn
theorem vp_c {x : Int32} (h0 : ¬ x < 0) (h : x < (4 : Int32)) : vp_in x 4 := by
  rw [vp_in_iff]
  rw [Int32.lt_iff_toInt_lt] at h h0
  rw [Int32.toInt_zero] at h0
  have : (4 : Int32).toInt = 4 := by decide
  omega
theorem nz_le {x : Int32} (h : ¬ x ≤ 0) : ¬ x = 0 := fun e => h (by rw [e]; exact Int32.le_refl 0)
theorem nz_ch {x : Int32} (h : ¬ x < 0) : ¬ x + (1 : Int32) = 0 := fun e => h (by
  have : x = -1 := by
    have h1 : x + 1 - 1 = 0 - 1 := by rw [e]
    rw [Int32.add_sub_cancel] at h1
    exact h1
  rw [this]; decide)
theorem inc_t {x B : Int32} (h : ¬ B ≤ x) : (x + (1 : Int32)).toInt = x.toInt + 1 := by
  rw [Int32.le_iff_toInt_le] at h
  have h1 := B.toInt_lt
  have h2 := x.le_toInt
  rw [Int32.toInt_add, show (1 : Int32).toInt = 1 from by decide]
  exact Int.bmod_eq_of_le (by omega) (by omega)
theorem lt_m {x B : Int32} {n : Nat} (h : ¬ B ≤ x) (hm : (B.toInt - x.toInt).toNat < n + 1) : (B.toInt - (x + (1 : Int32)).toInt).toNat < n := by
  rw [inc_t h]
  rw [Int32.le_iff_toInt_le] at h
  omega
theorem lt_p {x B : Int32} (h0 : 0 ≤ x.toInt) (h : ¬ B ≤ x) : 0 ≤ (x + (1 : Int32)).toInt := by
  rw [inc_t h]
  omega
theorem inc_ts {x B : Int32} (h : ¬ B < x) (hB : B.toInt < 1000) : (x + (1 : Int32)).toInt = x.toInt + 1 := by
  rw [Int32.lt_iff_toInt_lt] at h
  have h2 := x.le_toInt
  rw [Int32.toInt_add, show (1 : Int32).toInt = 1 from by decide]
  exact Int.bmod_eq_of_le (by omega) (by omega)
theorem lt_ms {x B : Int32} {n : Nat} (h : ¬ B < x) (hB : B.toInt < 1000) (hm : (B.toInt + 1 - x.toInt).toNat < n + 1) : (B.toInt + 1 - (x + (1 : Int32)).toInt).toNat < n := by
  rw [inc_ts h hB]
  rw [Int32.lt_iff_toInt_lt] at h
  omega
theorem lt_ps {x B : Int32} (h0 : 0 ≤ x.toInt) (h : ¬ B < x) (hB : B.toInt < 1000) : 0 ≤ (x + (1 : Int32)).toInt := by
  rw [inc_ts h hB]
  omega
abbrev ex_ : List String := []
abbrev ex_I : List String := ["java/lang/IndexOutOfBoundsException"]
abbrev ex_A : List String := ["java/lang/IllegalArgumentException"]
abbrev ex_S : List String := ["java/lang/IllegalStateException"]
abbrev ex_IA : List String := ["java/lang/IndexOutOfBoundsException", "java/lang/IllegalArgumentException"]
abbrev ex_IS : List String := ["java/lang/IndexOutOfBoundsException", "java/lang/IllegalStateException"]
abbrev ex_IAS : List String := ["java/lang/IndexOutOfBoundsException", "java/lang/IllegalArgumentException", "java/lang/IllegalStateException"]
theorem ex_sub {a b : List String} {E : String} (h : ∀ x ∈ a, x ∈ b) (hE : E ∈ a) : E ∈ b := h E hE
theorem f_machineAt0 (μ : TMem) {Q : Nat → TMem → Prop} {X : String → TMem → Prop} (h : ∀ (r : Nat) (μ9 : TMem), kd r = 2 → Fr 0 μ μ9 → Q r μ9) : wp_X9_machineAt μ (0 : Int32) Q X := by
  show ((0 : Int32) < 0 → (X "java/lang/IndexOutOfBoundsException" μ)) ∧ (¬ (0 : Int32) < 0 → (((0 : Int32) < (4 : Int32) → (vp_in (0 : Int32) 4 ∧ (Q (2 + 2 * (0 : Int32).toNatClampNeg) μ))) ∧ (¬ (0 : Int32) < (4 : Int32) → (X "java/lang/IndexOutOfBoundsException" μ))))
  exact ⟨fun z => absurd z (by decide), fun _ => ⟨fun _ => ⟨vp_in_iff.mpr (by decide), h _ _ rfl Fr.rf⟩, fun z => absurd (by decide) z⟩⟩
end TOT
end
/-! part 84.t1 -/
section
set_option maxHeartbeats 2000000 in
theorem f_X9_knock (μ : TMem)  {Q : Int32 → TMem → Prop} (h : ∀ (r : Int32) (μ9 : TMem), Fr 4 μ μ9 → Q r μ9) : wp_X9_knock μ Q := by
  show Q ((tms μ 0 13 ((μ 0 13) + (1 : Int32))) 0 13) (tms μ 0 13 ((μ 0 13) + (1 : Int32)))
  exact h _ _ (Fr.st (Fr.rf) (by rw [show kd 0 = 8 from rfl] <;> rfl) (Or.inl (ne43 (K := 8) rfl (by decide))))
set_option maxHeartbeats 2000000 in
theorem fl_wpl_X9_countCodes_4 (v4 : Int32) {Q : Int32 → Prop} (h : ∀ r : Int32, Q r) : ∀ (n : Nat) (v2 : Int32) (v3 : Int32), ((v4).toInt - (v2).toInt).toNat < n → 0 ≤ (v2).toInt → wpl_X9_countCodes_4 v4 Q n v2 v3 := by
  intro n
  induction n with
  | zero => intro v2 v3 hm; exact absurd hm (Nat.not_lt_zero _)
  | succ n ih =>
    intro v2 v3 hm hi
    show (v4 ≤ v2 → (Q v3)) ∧ (¬ v4 ≤ v2 → (wpl_X9_countCodes_4 v4 Q n (v2 + (1 : Int32)) (v3 * (3 : Int32))))
    refine ⟨fun c_ex => ?_, fun c_in => ?_⟩
    · exact h _
    have c_lt : ¬ (v4) ≤ v2 := c_in
    exact ih (v2 + (1 : Int32)) (v3 * (3 : Int32)) (lt_m c_lt (by omega)) (lt_p (by assumption) c_lt)
set_option maxHeartbeats 2000000 in
theorem f_X9_countCodes (a0 : Int32) {Q : Int32 → Prop} (h : ∀ r : Int32, Q r) : wp_X9_countCodes a0 Q := by
  show ∃ n0x, wpl_X9_countCodes_4 a0 Q n0x (0 : Int32) (1 : Int32)
  refine ⟨_, fl_wpl_X9_countCodes_4 a0 h _ (0 : Int32) (1 : Int32) (Nat.lt_succ_self _) (by first | decide | omega)⟩
set_option maxHeartbeats 2000000 in
theorem f_X9_isIn (a0 : Int32) (a1 : Int32) {Q : Int32 → Prop} (h : ∀ r : Int32, isB r → Q r) : wp_X9_isIn a0 a1 Q := by
  show (((a0 >>> (a1 &&& 31)) &&& (1 : Int32)) = 0 → (Q (0 : Int32))) ∧ (¬ ((a0 >>> (a1 &&& 31)) &&& (1 : Int32)) = 0 → (Q (1 : Int32)))
  refine ⟨fun c1 => ?_, fun c2 => ?_⟩
  · exact h _ (by first | assumption | exact Or.inl rfl | exact Or.inr rfl | exact isB_or (by assumption) (by first | assumption | exact Or.inl rfl | exact Or.inr rfl))
  · exact h _ (by first | assumption | exact Or.inl rfl | exact Or.inr rfl | exact isB_or (by assumption) (by first | assumption | exact Or.inl rfl | exact Or.inr rfl))
set_option maxHeartbeats 2000000 in
theorem f_X9_withOrWithout (a0 : Int32) (a1 : Int32) (a2 : Int32) {Q : Int32 → Prop} (h : ∀ r : Int32, Q r) : wp_X9_withOrWithout a0 a1 a2 Q := by
  show (a2 = 0 → (Q (a0 &&& (((1 : Int32) <<< (a1 &&& 31)) ^^^ (-1 : Int32))))) ∧ (¬ a2 = 0 → (Q (a0 ||| ((1 : Int32) <<< (a1 &&& 31)))))
  refine ⟨fun c3 => ?_, fun c4 => ?_⟩
  · exact h _
  · exact h _
set_option maxHeartbeats 2000000 in
theorem f_X9_letterOf (a0 : Int32) {Q : Int32 → Prop} (h : ∀ r : Int32, Q r) : wp_X9_letterOf a0 Q := by
  show Q ((((97 : Int32) + a0).toUInt32 % 65536).toInt32)
  exact h _
set_option maxHeartbeats 2000000 in
theorem f_X9_acted (μ : TMem) (a1 : Int32) {Q : Int32 → TMem → Prop} (h : ∀ (r : Int32) (μ9 : TMem), Fr 3 μ μ9 → Q r μ9) : wp_X9_acted μ a1 Q := by
  show Q a1 (tms μ 0 11 ((μ 0 11) + (1 : Int32)))
  exact h _ _ (Fr.st (Fr.rf) (by rw [show kd 0 = 8 from rfl] <;> rfl) (Or.inl (ne43 (K := 8) rfl (by decide))))
set_option maxHeartbeats 2000000 in
theorem f_X9_refuse (μ : TMem)  {Q : Int32 → TMem → Prop} (h : ∀ (r : Int32) (μ9 : TMem), Fr 3 μ μ9 → Q r μ9) : wp_X9_refuse μ Q := by
  show Q (-9 : Int32) (tms μ 0 12 ((μ 0 12) + (1 : Int32)))
  exact h _ _ (Fr.st (Fr.rf) (by rw [show kd 0 = 8 from rfl] <;> rfl) (Or.inl (ne43 (K := 8) rfl (by decide))))
set_option maxHeartbeats 2000000 in
theorem f_X7_at (k0 : Nat) (hk0 : kd k0 = 2 ∨ kd k0 = 5) (μ : TMem) (a1 : Int32) (a2 : Int32) {Q : Int32 → Prop} (h : ∀ r : Int32, Q r) : wp_X7_at k0 μ a1 a2 Q := by
  show (((a1 * (3 : Int32)) + a2) < 0 → (Q (0 : Int32))) ∧ (¬ ((a1 * (3 : Int32)) + a2) < 0 → (((nI (tl (k0 + 1))) ≤ ((a1 * (3 : Int32)) + a2) → (Q (0 : Int32))) ∧ (¬ (nI (tl (k0 + 1))) ≤ ((a1 * (3 : Int32)) + a2) → (vp_in ((a1 * (3 : Int32)) + a2) (tl (k0 + 1)) ∧ (Q (μ (k0 + 1) ((a1 * (3 : Int32)) + a2).toNatClampNeg))))))
  refine ⟨fun c5 => ?_, fun c6 => ?_⟩
  · exact h _
  · refine ⟨fun c7 => ?_, fun c8 => ?_⟩
    · exact h _
    · have hv9 : vp_in ((a1 * (3 : Int32)) + a2) (tl (k0 + 1)) := (by first | exact vp_a (by assumption) (by assumption) (tl_s _) | exact vp_b (by assumption) (by assumption) (tl_s _) | exact vp_a (n := 4) (by assumption) (by assumption) (by decide) | exact vp_b (n := 4) (by assumption) (by assumption) (by decide) | exact vp_c (by assumption) (by assumption))
      refine ⟨hv9, ?_⟩
      exact h _
set_option maxHeartbeats 2000000 in
theorem f_X7_put (k0 : Nat) (hk0 : kd k0 = 2 ∨ kd k0 = 5) (μ : TMem) (a1 : Int32) (a2 : Int32) (a3 : Int32) {Q : TMem → Prop} (h : ∀ μ9 : TMem, Fr 0 μ μ9 → Q μ9) : wp_X7_put k0 μ a1 a2 a3 Q := by
  show (((a1 * (3 : Int32)) + a2) < 0 → (Q μ)) ∧ (¬ ((a1 * (3 : Int32)) + a2) < 0 → (((nI (tl (k0 + 1))) ≤ ((a1 * (3 : Int32)) + a2) → (Q μ)) ∧ (¬ (nI (tl (k0 + 1))) ≤ ((a1 * (3 : Int32)) + a2) → (vp_in ((a1 * (3 : Int32)) + a2) (tl (k0 + 1)) ∧ (Q (tms μ (k0 + 1) ((a1 * (3 : Int32)) + a2).toNatClampNeg a3))))))
  refine ⟨fun c10 => ?_, fun c11 => ?_⟩
  · exact h _ (Fr.rf)
  · refine ⟨fun c12 => ?_, fun c13 => ?_⟩
    · exact h _ (Fr.rf)
    · have hv14 : vp_in ((a1 * (3 : Int32)) + a2) (tl (k0 + 1)) := (by first | exact vp_a (by assumption) (by assumption) (tl_s _) | exact vp_b (by assumption) (by assumption) (tl_s _) | exact vp_a (n := 4) (by assumption) (by assumption) (by decide) | exact vp_b (n := 4) (by assumption) (by assumption) (by decide) | exact vp_c (by assumption) (by assumption))
      refine ⟨hv14, ?_⟩
      exact h _ (Fr.st (Fr.rf) (by rw [show kd (k0 + 1) = 9 from (ka_25 hk0)] <;> rfl) (Or.inl (ne43b hk0)))
set_option maxHeartbeats 2000000 in
theorem fl_wpl_X2_becomePlain_33 (μ0 : TMem) (k0 : Nat) (hk0 : kd k0 = 2) (k1 : Nat) (hk1 : kd k1 = 5) (v7 : Int32) {K58 : TMem → Prop} (hK58 : ∀ (u0 : TMem), Fr 0 μ0 u0 → K58 u0) : ∀ (n : Nat) (v6 : Int32) (μ8 : TMem), (((3 : Int32)).toInt - (v6).toInt).toNat < n → 0 ≤ (v6).toInt → Fr 0 μ0 μ8 → wpl_X2_becomePlain_33 k0 k1 v7 K58 n v6 μ8 := by
  intro n
  induction n with
  | zero => intro v6 μ8 hm; exact absurd hm (Nat.not_lt_zero _)
  | succ n ih =>
    intro v6 μ8 hm hi hF
    show ((3 : Int32) ≤ v6 → (K58 μ8)) ∧ (¬ (3 : Int32) ≤ v6 → (wp_X7_at k1 μ8 v7 v6 (fun (r10 : Int32) => wp_X7_put k0 μ8 v7 v6 ((1 : Int32) <<< (r10 &&& 31)) (fun (μ13 : TMem) => wpl_X2_becomePlain_33 k0 k1 v7 K58 n (v6 + (1 : Int32)) μ13))))
    refine ⟨fun c_ex => ?_, fun c_in => ?_⟩
    · exact hK58 μ8 hF
    have c_lt : ¬ ((3 : Int32)) ≤ v6 := c_in
    refine f_X7_at k1 (Or.inr hk1) μ8 v7 v6 (fun r10 => ?_)
    refine f_X7_put k0 (Or.inl hk0) μ8 v7 v6 ((1 : Int32) <<< (r10 &&& 31)) (fun μ13 hf15 => ?_)
    exact ih (v6 + (1 : Int32)) μ13 (lt_m c_lt (by omega)) (lt_p (by assumption) c_lt) (Fr.trans hF (Fr.up (by decide) hf15))
set_option maxHeartbeats 2000000 in
theorem fl_wpl_X2_becomePlain_23 (μ0 : TMem) (k0 : Nat) (hk0 : kd k0 = 2) (k1 : Nat) (hk1 : kd k1 = 5) {Q : TMem → Prop} (h : ∀ μ9 : TMem, Fr 0 μ0 μ9 → Q μ9) : ∀ (n : Nat) (v2 : Int32) (μ3 : TMem), (((μ0 k0 1)).toInt - (v2).toInt).toNat < n → 0 ≤ (v2).toInt → Fr 0 μ0 μ3 → wpl_X2_becomePlain_23 k0 k1 Q n v2 μ3 := by
  intro n
  induction n with
  | zero => intro v2 μ3 hm; exact absurd hm (Nat.not_lt_zero _)
  | succ n ih =>
    intro v2 μ3 hm hi hF
    show ((μ3 k0 1) ≤ v2 → (Q μ3)) ∧ (¬ (μ3 k0 1) ≤ v2 → (∃ n4x, wpl_X2_becomePlain_33 k0 k1 v2 (fun (μ15 : TMem) => wpl_X2_becomePlain_23 k0 k1 Q n (v2 + (1 : Int32)) μ15) n4x (0 : Int32) μ3))
    refine ⟨fun c_ex => ?_, fun c_in => ?_⟩
    · exact h _ hF
    have e_k0_1 : μ3 k0 1 = μ0 k0 1 := hF.1 k0 1 (by rw [show kd k0 = 2 from hk0] <;> rfl)
    have c_lt : ¬ ((μ0 k0 1)) ≤ v2 := by
      rw [e_k0_1] at c_in
      exact c_in
    refine ⟨_, fl_wpl_X2_becomePlain_33 μ3 k0 hk0 k1 hk1 v2 ?_ _ (0 : Int32) μ3 (Nat.lt_succ_self _) (by first | decide | omega) Fr.rf⟩
    · intro μ15 hf16
      exact ih (v2 + (1 : Int32)) μ15 (lt_m c_lt (by omega)) (lt_p (by assumption) c_lt) (Fr.trans hF (Fr.up (by decide) hf16))
set_option maxHeartbeats 2000000 in
theorem f_X2_becomePlain (k0 : Nat) (hk0 : kd k0 = 2) (k1 : Nat) (hk1 : kd k1 = 5) (μ : TMem)  {Q : TMem → Prop} (h : ∀ μ9 : TMem, Fr 2 μ μ9 → Q μ9) : wp_X2_becomePlain k0 k1 μ Q := by
  show ∃ n0x, wpl_X2_becomePlain_23 k0 k1 Q n0x (0 : Int32) (tms (tms (tms μ k0 1 (μ k1 1)) k0 3 (1 : Int32)) k0 2 ((tms (tms μ k0 1 (μ k1 1)) k0 3 (1 : Int32)) k1 2))
  refine ⟨_, fl_wpl_X2_becomePlain_23 (tms (tms (tms μ k0 1 (μ k1 1)) k0 3 (1 : Int32)) k0 2 ((tms (tms μ k0 1 (μ k1 1)) k0 3 (1 : Int32)) k1 2)) k0 hk0 k1 hk1 (fun μ9 f9 => h μ9 (Fr.trans (Fr.st (Fr.st (Fr.st (Fr.rf) (by rw [show kd k0 = 2 from hk0] <;> rfl) (Or.inl (ne43 (K := 2) hk0 (by decide)))) (by rw [show kd k0 = 2 from hk0] <;> rfl) (Or.inl (ne43 (K := 2) hk0 (by decide)))) (by rw [show kd k0 = 2 from hk0] <;> rfl) (Or.inl (ne43 (K := 2) hk0 (by decide)))) (Fr.up (by decide) f9))) _ (0 : Int32) (tms (tms (tms μ k0 1 (μ k1 1)) k0 3 (1 : Int32)) k0 2 ((tms (tms μ k0 1 (μ k1 1)) k0 3 (1 : Int32)) k1 2)) (Nat.lt_succ_self _) (by first | decide | omega) Fr.rf⟩
set_option maxHeartbeats 2000000 in
theorem f_X9_becomeMade (k1 : Nat) (hk1 : kd k1 = 2) (μ : TMem)  {Q : Int32 → TMem → Prop} (h : ∀ (r : Int32) (μ9 : TMem), Fr 3 μ μ9 → Q r μ9) : wp_X9_becomeMade k1 μ Q := by
  show ((μ 57 1) ≤ (7 : Int32) → (wp_X2_becomePlain k1 57 μ (fun (μ2 : TMem) => wp_X9_acted μ2 (μ2 57 1) (fun (r4 : Int32) (μ3 : TMem) => Q r4 μ3)))) ∧ (¬ (μ 57 1) ≤ (7 : Int32) → (wp_X9_refuse μ (fun (r6 : Int32) (μ5 : TMem) => Q r6 μ5)))
  refine ⟨fun c17 => ?_, fun c18 => ?_⟩
  · refine f_X2_becomePlain k1 hk1 57 rfl μ (fun μ2 hf19 => ?_)
    refine f_X9_acted μ2 (μ2 57 1) (fun r4 μ3 hf20 => ?_)
    exact h _ _ (Fr.trans (Fr.trans (Fr.rf) (Fr.up (by decide) hf19)) (Fr.up (by decide) hf20))
  · refine f_X9_refuse μ (fun r6 μ5 hf21 => ?_)
    exact h _ _ (Fr.trans (Fr.rf) (Fr.up (by decide) hf21))
set_option maxHeartbeats 2000000 in
theorem f_X6_put (k0 : Nat) (hk0 : kd k0 = 6) (μ : TMem) (a1 : Int32) (a2 : Int32) (hv : k0 + 1 ≠ 43 ∨ rng a2) {Q : TMem → Prop} (h : ∀ μ9 : TMem, Fr 0 μ μ9 → Q μ9) : wp_X6_put k0 μ a1 a2 Q := by
  show (a1 < 0 → (Q μ)) ∧ (¬ a1 < 0 → (((nI (tl (k0 + 1))) ≤ a1 → (Q μ)) ∧ (¬ (nI (tl (k0 + 1))) ≤ a1 → (vp_in a1 (tl (k0 + 1)) ∧ (Q (tms μ (k0 + 1) a1.toNatClampNeg a2))))))
  refine ⟨fun c22 => ?_, fun c23 => ?_⟩
  · exact h _ (Fr.rf)
  · refine ⟨fun c24 => ?_, fun c25 => ?_⟩
    · exact h _ (Fr.rf)
    · have hv26 : vp_in a1 (tl (k0 + 1)) := (by first | exact vp_a (by assumption) (by assumption) (tl_s _) | exact vp_b (by assumption) (by assumption) (tl_s _) | exact vp_a (n := 4) (by assumption) (by assumption) (by decide) | exact vp_b (n := 4) (by assumption) (by assumption) (by decide) | exact vp_c (by assumption) (by assumption))
      refine ⟨hv26, ?_⟩
      exact h _ (Fr.st (Fr.rf) (by rw [show kd (k0 + 1) = 9 from (ka_6 hk0)] <;> rfl) hv)
set_option maxHeartbeats 2000000 in
theorem f_X6_at (k0 : Nat) (hk0 : kd k0 = 6) (μ : TMem) (a1 : Int32) {Q : Int32 → Prop} (h : ∀ r : Int32, Q r) : wp_X6_at k0 μ a1 Q := by
  show (a1 < 0 → (Q (0 : Int32))) ∧ (¬ a1 < 0 → (((nI (tl (k0 + 1))) ≤ a1 → (Q (0 : Int32))) ∧ (¬ (nI (tl (k0 + 1))) ≤ a1 → (vp_in a1 (tl (k0 + 1)) ∧ (Q (μ (k0 + 1) a1.toNatClampNeg))))))
  refine ⟨fun c27 => ?_, fun c28 => ?_⟩
  · exact h _
  · refine ⟨fun c29 => ?_, fun c30 => ?_⟩
    · exact h _
    · have hv31 : vp_in a1 (tl (k0 + 1)) := (by first | exact vp_a (by assumption) (by assumption) (tl_s _) | exact vp_b (by assumption) (by assumption) (tl_s _) | exact vp_a (n := 4) (by assumption) (by assumption) (by decide) | exact vp_b (n := 4) (by assumption) (by assumption) (by decide) | exact vp_c (by assumption) (by assumption))
      refine ⟨hv31, ?_⟩
      exact h _
set_option maxHeartbeats 2000000 in
theorem fl_wpl_X2_reach_5 (k0 : Nat) (hk0 : kd k0 = 2) (μ : TMem) (v4 : Int32) (v5 : Int32) {Q : Int32 → Prop} (h : ∀ r : Int32, Q r) : ∀ (n : Nat) (v2 : Int32) (v3 : Int32), (((μ k0 1)).toInt - (v2).toInt).toNat < n → 0 ≤ (v2).toInt → wpl_X2_reach_5 k0 μ v4 v5 Q n v2 v3 := by
  intro n
  induction n with
  | zero => intro v2 v3 hm; exact absurd hm (Nat.not_lt_zero _)
  | succ n ih =>
    intro v2 v3 hm hi
    show ((μ k0 1) ≤ v2 → (Q v3)) ∧ (¬ (μ k0 1) ≤ v2 → (wp_X9_isIn v4 v2 (fun (r7 : Int32) => (r7 = 0 → (wpl_X2_reach_5 k0 μ v4 v5 Q n (v2 + (1 : Int32)) v3)) ∧ (¬ r7 = 0 → (wp_X7_at k0 μ v2 v5 (fun (r9 : Int32) => wpl_X2_reach_5 k0 μ v4 v5 Q n (v2 + (1 : Int32)) (v3 ||| r9)))))))
    refine ⟨fun c_ex => ?_, fun c_in => ?_⟩
    · exact h _
    have c_lt : ¬ ((μ k0 1)) ≤ v2 := c_in
    refine f_X9_isIn v4 v2 (fun r7 b32 => ?_)
    refine ⟨fun c33 => ?_, fun c34 => ?_⟩
    · exact ih (v2 + (1 : Int32)) v3 (lt_m c_lt (by omega)) (lt_p (by assumption) c_lt)
    · refine f_X7_at k0 (Or.inl hk0) μ v2 v5 (fun r9 => ?_)
      exact ih (v2 + (1 : Int32)) (v3 ||| r9) (lt_m c_lt (by omega)) (lt_p (by assumption) c_lt)
set_option maxHeartbeats 2000000 in
theorem f_X2_reach (k0 : Nat) (hk0 : kd k0 = 2) (μ : TMem) (a1 : Int32) (a2 : Int32) {Q : Int32 → Prop} (h : ∀ r : Int32, Q r) : wp_X2_reach k0 μ a1 a2 Q := by
  show ∃ n0x, wpl_X2_reach_5 k0 μ a1 a2 Q n0x (0 : Int32) (0 : Int32)
  refine ⟨_, fl_wpl_X2_reach_5 k0 hk0 μ a1 a2 h _ (0 : Int32) (0 : Int32) (Nat.lt_succ_self _) (by first | decide | omega)⟩
set_option maxHeartbeats 2000000 in
theorem fl_wpl_X6_find_2 (k0 : Nat) (hk0 : kd k0 = 6) (μ : TMem) (v3 : Int32) (v4 : Int32) {Q : Int32 → Prop} (h : ∀ r : Int32, Q r) : ∀ (n : Nat) (v2 : Int32), ((v4).toInt - (v2).toInt).toNat < n → 0 ≤ (v2).toInt → wpl_X6_find_2 k0 μ v3 v4 Q n v2 := by
  intro n
  induction n with
  | zero => intro v2 hm; exact absurd hm (Nat.not_lt_zero _)
  | succ n ih =>
    intro v2 hm hi
    show (v4 ≤ v2 → (Q (-1 : Int32))) ∧ (¬ v4 ≤ v2 → (((nI (tl (k0 + 1))) ≤ v2 → (Q (-1 : Int32))) ∧ (¬ (nI (tl (k0 + 1))) ≤ v2 → (vp_in v2 (tl (k0 + 1)) ∧ ((¬ (μ (k0 + 1) v2.toNatClampNeg) = v3 → (wpl_X6_find_2 k0 μ v3 v4 Q n (v2 + (1 : Int32)))) ∧ ((μ (k0 + 1) v2.toNatClampNeg) = v3 → (Q v2)))))))
    refine ⟨fun c_ex => ?_, fun c_in => ?_⟩
    · exact h _
    have c_lt : ¬ (v4) ≤ v2 := c_in
    refine ⟨fun c35 => ?_, fun c36 => ?_⟩
    · exact h _
    · have hv37 : vp_in v2 (tl (k0 + 1)) := (by first | exact vp_a (by assumption) (by assumption) (tl_s _) | exact vp_b (by assumption) (by assumption) (tl_s _) | exact vp_a (n := 4) (by assumption) (by assumption) (by decide) | exact vp_b (n := 4) (by assumption) (by assumption) (by decide) | exact vp_c (by assumption) (by assumption))
      refine ⟨hv37, ?_⟩
      refine ⟨fun c38 => ?_, fun c39 => ?_⟩
      · exact ih (v2 + (1 : Int32)) (lt_m c_lt (by omega)) (lt_p (by assumption) c_lt)
      · exact h _
set_option maxHeartbeats 2000000 in
theorem f_X6_find (k0 : Nat) (hk0 : kd k0 = 6) (μ : TMem) (a1 : Int32) (a2 : Int32) {Q : Int32 → Prop} (h : ∀ r : Int32, Q r) : wp_X6_find k0 μ a1 a2 Q := by
  show ∃ n0x, wpl_X6_find_2 k0 μ a1 a2 Q n0x (0 : Int32)
  refine ⟨_, fl_wpl_X6_find_2 k0 hk0 μ a1 a2 h _ (0 : Int32) (Nat.lt_succ_self _) (by first | decide | omega)⟩
set_option maxHeartbeats 2000000 in
theorem f_X3_numberOf (k2 : Nat) (hk2 : kd k2 = 5) (μ : TMem) (a1 : Int32) {Q : Int32 → TMem → Prop} (h : ∀ (r : Int32) (μ9 : TMem), Fr 2 μ μ9 → Q r μ9) : wp_X3_numberOf k2 μ a1 Q := by
  show wp_X6_find 16 μ a1 (μ k2 1) (fun (r1 : Int32) => (¬ r1 = (-1 : Int32) → (Q r1 μ)) ∧ (r1 = (-1 : Int32) → (((μ k2 1) < (32 : Int32) → (wp_X6_put 16 μ (μ k2 1) a1 (fun (μ6 : TMem) => Q (((tms μ6 k2 1 ((μ6 k2 1) + (1 : Int32))) k2 1) - (1 : Int32)) (tms μ6 k2 1 ((μ6 k2 1) + (1 : Int32)))))) ∧ (¬ (μ k2 1) < (32 : Int32) → (Q r1 μ)))))
  refine f_X6_find 16 rfl μ a1 (μ k2 1) (fun r1 => ?_)
  refine ⟨fun c40 => ?_, fun c41 => ?_⟩
  · exact h _ _ (Fr.rf)
  · refine ⟨fun c42 => ?_, fun c43 => ?_⟩
    · refine f_X6_put 16 rfl μ (μ k2 1) a1 (Or.inl (by decide)) (fun μ6 hf44 => ?_)
      exact h _ _ (Fr.st (Fr.trans (Fr.rf) (Fr.up (by decide) hf44)) (by rw [show kd k2 = 5 from hk2] <;> rfl) (Or.inl (ne43 (K := 5) hk2 (by decide))))
    · exact h _ _ (Fr.rf)
set_option maxHeartbeats 2000000 in
theorem fl_wpl_X3_makeOneWay_78 (μ0 : TMem) (k1 : Nat) (hk1 : kd k1 = 2) (k2 : Nat) (hk2 : kd k2 = 5) (v15 : Int32) (v16 : Int32) {K122 : TMem → Prop} {Q : Int32 → TMem → Prop} (hK122 : ∀ (u0 : TMem), Fr 2 μ0 u0 → K122 u0) (h : ∀ (r : Int32) (μ9 : TMem), isB r → Fr 2 μ0 μ9 → Q r μ9) : ∀ (n : Nat) (v14 : Int32) (μ17 : TMem), (((3 : Int32)).toInt - (v14).toInt).toNat < n → 0 ≤ (v14).toInt → Fr 2 μ0 μ17 → wpl_X3_makeOneWay_78 k1 k2 v15 v16 K122 Q n v14 μ17 := by
  intro n
  induction n with
  | zero => intro v14 μ17 hm; exact absurd hm (Nat.not_lt_zero _)
  | succ n ih =>
    intro v14 μ17 hm hi hF
    show ((3 : Int32) ≤ v14 → (K122 μ17)) ∧ (¬ (3 : Int32) ≤ v14 → (wp_X2_reach k1 μ17 v15 v14 (fun (r19 : Int32) => wp_X3_numberOf k2 μ17 r19 (fun (r23 : Int32) (μ22 : TMem) => (¬ r23 = (-1 : Int32) → (wp_X7_put k2 μ22 v16 v14 r23 (fun (μ25 : TMem) => wpl_X3_makeOneWay_78 k1 k2 v15 v16 K122 Q n (v14 + (1 : Int32)) μ25))) ∧ (r23 = (-1 : Int32) → (Q (0 : Int32) μ22))))))
    refine ⟨fun c_ex => ?_, fun c_in => ?_⟩
    · exact hK122 μ17 hF
    have c_lt : ¬ ((3 : Int32)) ≤ v14 := c_in
    refine f_X2_reach k1 hk1 μ17 v15 v14 (fun r19 => ?_)
    refine f_X3_numberOf k2 hk2 μ17 r19 (fun r23 μ22 hf45 => ?_)
    refine ⟨fun c46 => ?_, fun c47 => ?_⟩
    · refine f_X7_put k2 (Or.inr hk2) μ22 v16 v14 r23 (fun μ25 hf48 => ?_)
      exact ih (v14 + (1 : Int32)) μ25 (lt_m c_lt (by omega)) (lt_p (by assumption) c_lt) (Fr.trans (Fr.trans hF (Fr.up (by decide) hf45)) (Fr.up (by decide) hf48))
    · exact h _ _ (by first | assumption | exact Or.inl rfl | exact Or.inr rfl | exact isB_or (by assumption) (by first | assumption | exact Or.inl rfl | exact Or.inr rfl)) (Fr.trans hF (Fr.up (by decide) hf45))
set_option maxHeartbeats 2000000 in
theorem fl_wpl_X3_makeOneWay_24 (μ0 : TMem) (k1 : Nat) (hk1 : kd k1 = 2) (k2 : Nat) (hk2 : kd k2 = 5) {Q : Int32 → TMem → Prop} (h : ∀ (r : Int32) (μ9 : TMem), isB r → Fr 2 μ0 μ9 → Q r μ9) : ∀ (n : Nat) (v3 : Int32) (μ4 : TMem), (((32 : Int32)).toInt - (v3).toInt).toNat < n → 0 ≤ (v3).toInt → Fr 2 μ0 μ4 → wpl_X3_makeOneWay_24 k1 k2 Q n v3 μ4 := by
  intro n
  induction n with
  | zero => intro v3 μ4 hm; exact absurd hm (Nat.not_lt_zero _)
  | succ n ih =>
    intro v3 μ4 hm hi hF
    show ((32 : Int32) ≤ v3 → (Q (1 : Int32) μ4)) ∧ (¬ (32 : Int32) ≤ v3 → (((μ4 k2 1) ≤ v3 → (Q (1 : Int32) μ4)) ∧ (¬ (μ4 k2 1) ≤ v3 → (wp_X6_at 16 μ4 v3 (fun (r7 : Int32) => ∀ J10 : Int32 → Prop, (∀ (j11 : Int32), (wp_X9_withOrWithout (μ4 k2 2) v3 j11 (fun (r12 : Int32) => ∃ n12x, wpl_X3_makeOneWay_78 k1 k2 r7 v3 (fun (μ27 : TMem) => wpl_X3_makeOneWay_24 k1 k2 Q n (v3 + (1 : Int32)) μ27) Q n12x (0 : Int32) (tms μ4 k2 2 r12))) → J10 j11) → (((r7 &&& (μ4 k1 2)) = 0 → (J10 (0 : Int32))) ∧ (¬ (r7 &&& (μ4 k1 2)) = 0 → (J10 (1 : Int32)))))))))
    refine ⟨fun c_ex => ?_, fun c_in => ?_⟩
    · exact h _ _ (by first | assumption | exact Or.inl rfl | exact Or.inr rfl | exact isB_or (by assumption) (by first | assumption | exact Or.inl rfl | exact Or.inr rfl)) hF
    have c_lt : ¬ ((32 : Int32)) ≤ v3 := c_in
    refine ⟨fun c49 => ?_, fun c50 => ?_⟩
    · exact h _ _ (by first | assumption | exact Or.inl rfl | exact Or.inr rfl | exact isB_or (by assumption) (by first | assumption | exact Or.inl rfl | exact Or.inr rfl)) hF
    · refine f_X6_at 16 rfl μ4 v3 (fun r7 => ?_)
      intro J10 hJ10
      refine ⟨fun c51 => ?_, fun c52 => ?_⟩
      · refine hJ10 (0 : Int32) ?_
        refine f_X9_withOrWithout (μ4 k2 2) v3 (0 : Int32) (fun r12 => ?_)
        refine ⟨_, fl_wpl_X3_makeOneWay_78 (tms μ4 k2 2 r12) k1 hk1 k2 hk2 r7 v3 ?_ (fun r9 μ9 b9 f9 => h r9 μ9 b9 (Fr.trans (Fr.st hF (by rw [show kd k2 = 5 from hk2] <;> rfl) (Or.inl (ne43 (K := 5) hk2 (by decide)))) (Fr.up (by decide) f9))) _ (0 : Int32) (tms μ4 k2 2 r12) (Nat.lt_succ_self _) (by first | decide | omega) Fr.rf⟩
        · intro μ27 hf53
          exact ih (v3 + (1 : Int32)) μ27 (lt_m c_lt (by omega)) (lt_p (by assumption) c_lt) (Fr.trans (Fr.st hF (by rw [show kd k2 = 5 from hk2] <;> rfl) (Or.inl (ne43 (K := 5) hk2 (by decide)))) (Fr.up (by decide) hf53))
      · refine hJ10 (1 : Int32) ?_
        refine f_X9_withOrWithout (μ4 k2 2) v3 (1 : Int32) (fun r12 => ?_)
        refine ⟨_, fl_wpl_X3_makeOneWay_78 (tms μ4 k2 2 r12) k1 hk1 k2 hk2 r7 v3 ?_ (fun r9 μ9 b9 f9 => h r9 μ9 b9 (Fr.trans (Fr.st hF (by rw [show kd k2 = 5 from hk2] <;> rfl) (Or.inl (ne43 (K := 5) hk2 (by decide)))) (Fr.up (by decide) f9))) _ (0 : Int32) (tms μ4 k2 2 r12) (Nat.lt_succ_self _) (by first | decide | omega) Fr.rf⟩
        · intro μ27 hf54
          exact ih (v3 + (1 : Int32)) μ27 (lt_m c_lt (by omega)) (lt_p (by assumption) c_lt) (Fr.trans (Fr.st hF (by rw [show kd k2 = 5 from hk2] <;> rfl) (Or.inl (ne43 (K := 5) hk2 (by decide)))) (Fr.up (by decide) hf54))
set_option maxHeartbeats 2000000 in
theorem f_X3_makeOneWay (k1 : Nat) (hk1 : kd k1 = 2) (k2 : Nat) (hk2 : kd k2 = 5) (μ : TMem)  {Q : Int32 → TMem → Prop} (h : ∀ (r : Int32) (μ9 : TMem), isB r → Fr 2 μ μ9 → Q r μ9) : wp_X3_makeOneWay k1 k2 μ Q := by
  show wp_X6_put 16 μ (0 : Int32) (μ k1 3) (fun (μ1 : TMem) => ∃ n1x, wpl_X3_makeOneWay_24 k1 k2 Q n1x (0 : Int32) (tms (tms μ1 k2 1 (1 : Int32)) k2 2 (0 : Int32)))
  refine f_X6_put 16 rfl μ (0 : Int32) (μ k1 3) (Or.inl (by decide)) (fun μ1 hf55 => ?_)
  refine ⟨_, fl_wpl_X3_makeOneWay_24 (tms (tms μ1 k2 1 (1 : Int32)) k2 2 (0 : Int32)) k1 hk1 k2 hk2 (fun r9 μ9 b9 f9 => h r9 μ9 b9 (Fr.trans (Fr.st (Fr.st (Fr.trans (Fr.rf) (Fr.up (by decide) hf55)) (by rw [show kd k2 = 5 from hk2] <;> rfl) (Or.inl (ne43 (K := 5) hk2 (by decide)))) (by rw [show kd k2 = 5 from hk2] <;> rfl) (Or.inl (ne43 (K := 5) hk2 (by decide)))) (Fr.up (by decide) f9))) _ (0 : Int32) (tms (tms μ1 k2 1 (1 : Int32)) k2 2 (0 : Int32)) (Nat.lt_succ_self _) (by first | decide | omega) Fr.rf⟩
set_option maxHeartbeats 2000000 in
theorem fl_wpl_X6_fill_2 (μ0 : TMem) (k0 : Nat) (hk0 : kd k0 = 6) (v3 : Int32) {Q : TMem → Prop} (h : ∀ μ9 : TMem, Fr 0 μ0 μ9 → Q μ9) (hv : k0 + 1 ≠ 43) : ∀ (n : Nat) (v2 : Int32) (μ4 : TMem), (((nI (tl (k0 + 1)))).toInt - (v2).toInt).toNat < n → 0 ≤ (v2).toInt → Fr 0 μ0 μ4 → wpl_X6_fill_2 k0 v3 Q n v2 μ4 := by
  intro n
  induction n with
  | zero => intro v2 μ4 hm; exact absurd hm (Nat.not_lt_zero _)
  | succ n ih =>
    intro v2 μ4 hm hi hF
    show ((nI (tl (k0 + 1))) ≤ v2 → (Q μ4)) ∧ (¬ (nI (tl (k0 + 1))) ≤ v2 → (vp_in v2 (tl (k0 + 1)) ∧ (wpl_X6_fill_2 k0 v3 Q n (v2 + (1 : Int32)) (tms μ4 (k0 + 1) v2.toNatClampNeg v3))))
    refine ⟨fun c_ex => ?_, fun c_in => ?_⟩
    · exact h _ hF
    have c_lt : ¬ ((nI (tl (k0 + 1)))) ≤ v2 := c_in
    have hv56 : vp_in v2 (tl (k0 + 1)) := (by first | exact vp_a (by assumption) (by assumption) (tl_s _) | exact vp_b (by assumption) (by assumption) (tl_s _) | exact vp_a (n := 4) (by assumption) (by assumption) (by decide) | exact vp_b (n := 4) (by assumption) (by assumption) (by decide) | exact vp_c (by assumption) (by assumption))
    refine ⟨hv56, ?_⟩
    exact ih (v2 + (1 : Int32)) (tms μ4 (k0 + 1) v2.toNatClampNeg v3) (lt_m c_lt (by omega)) (lt_p (by assumption) c_lt) (Fr.st hF (by rw [show kd (k0 + 1) = 9 from (ka_6 hk0)] <;> rfl) (Or.inl hv))
set_option maxHeartbeats 2000000 in
theorem f_X6_fill (k0 : Nat) (hk0 : kd k0 = 6) (μ : TMem) (a1 : Int32) (hv : k0 + 1 ≠ 43) {Q : TMem → Prop} (h : ∀ μ9 : TMem, Fr 0 μ μ9 → Q μ9) : wp_X6_fill k0 μ a1 Q := by
  show ∃ n0x, wpl_X6_fill_2 k0 a1 Q n0x (0 : Int32) μ
  refine ⟨_, fl_wpl_X6_fill_2 μ k0 hk0 a1 (fun μ9 f9 => h μ9 (Fr.trans (Fr.rf) (Fr.up (by decide) f9))) hv _ (0 : Int32) μ (Nat.lt_succ_self _) (by first | decide | omega) Fr.rf⟩
set_option maxHeartbeats 2000000 in
theorem f_X4_isGoal (μ : TMem) (a1 : Int32) (a2 : Int32) {Q : Int32 → Prop} (h : ∀ r : Int32, isB r → Q r) : wp_X4_isGoal μ a1 a2 Q := by
  show wp_X6_at 36 μ a1 (fun (r1 : Int32) => wp_X9_isIn (μ 35 6) r1 (fun (r4 : Int32) => wp_X6_at 38 μ a1 (fun (r5 : Int32) => wp_X9_isIn (μ 35 7) r5 (fun (r8 : Int32) => (a2 = (0 : Int32) → ((¬ r4 = 0 → (Q (1 : Int32))) ∧ (r4 = 0 → ((r8 = 0 → (Q (0 : Int32))) ∧ (¬ r8 = 0 → (Q (1 : Int32))))))) ∧ (¬ a2 = (0 : Int32) → (a2 = (1 : Int32) → ((r4 = 0 → (Q (0 : Int32))) ∧ (¬ r4 = 0 → ((r8 = 0 → (Q (0 : Int32))) ∧ (¬ r8 = 0 → (Q (1 : Int32))))))) ∧ (¬ a2 = (1 : Int32) → (a2 = (2 : Int32) → ((r4 = 0 → (Q (0 : Int32))) ∧ (¬ r4 = 0 → ((¬ r8 = 0 → (Q (0 : Int32))) ∧ (r8 = 0 → (Q (1 : Int32))))))) ∧ (¬ a2 = (2 : Int32) → ((r4 = r8 → (Q (0 : Int32))) ∧ (¬ r4 = r8 → (Q (1 : Int32)))))))))))
  refine f_X6_at 36 rfl μ a1 (fun r1 => ?_)
  refine f_X9_isIn (μ 35 6) r1 (fun r4 b57 => ?_)
  refine f_X6_at 38 rfl μ a1 (fun r5 => ?_)
  refine f_X9_isIn (μ 35 7) r5 (fun r8 b58 => ?_)
  refine ⟨fun c59 => ?_, fun c60 => ?_⟩
  · refine ⟨fun c61 => ?_, fun c62 => ?_⟩
    · exact h _ (by first | assumption | exact Or.inl rfl | exact Or.inr rfl | exact isB_or (by assumption) (by first | assumption | exact Or.inl rfl | exact Or.inr rfl))
    · refine ⟨fun c63 => ?_, fun c64 => ?_⟩
      · exact h _ (by first | assumption | exact Or.inl rfl | exact Or.inr rfl | exact isB_or (by assumption) (by first | assumption | exact Or.inl rfl | exact Or.inr rfl))
      · exact h _ (by first | assumption | exact Or.inl rfl | exact Or.inr rfl | exact isB_or (by assumption) (by first | assumption | exact Or.inl rfl | exact Or.inr rfl))
  · refine ⟨fun c65 => ?_, fun c66 => ?_⟩
    · refine ⟨fun c67 => ?_, fun c68 => ?_⟩
      · exact h _ (by first | assumption | exact Or.inl rfl | exact Or.inr rfl | exact isB_or (by assumption) (by first | assumption | exact Or.inl rfl | exact Or.inr rfl))
      · refine ⟨fun c69 => ?_, fun c70 => ?_⟩
        · exact h _ (by first | assumption | exact Or.inl rfl | exact Or.inr rfl | exact isB_or (by assumption) (by first | assumption | exact Or.inl rfl | exact Or.inr rfl))
        · exact h _ (by first | assumption | exact Or.inl rfl | exact Or.inr rfl | exact isB_or (by assumption) (by first | assumption | exact Or.inl rfl | exact Or.inr rfl))
    · refine ⟨fun c71 => ?_, fun c72 => ?_⟩
      · refine ⟨fun c73 => ?_, fun c74 => ?_⟩
        · exact h _ (by first | assumption | exact Or.inl rfl | exact Or.inr rfl | exact isB_or (by assumption) (by first | assumption | exact Or.inl rfl | exact Or.inr rfl))
        · refine ⟨fun c75 => ?_, fun c76 => ?_⟩
          · exact h _ (by first | assumption | exact Or.inl rfl | exact Or.inr rfl | exact isB_or (by assumption) (by first | assumption | exact Or.inl rfl | exact Or.inr rfl))
          · exact h _ (by first | assumption | exact Or.inl rfl | exact Or.inr rfl | exact isB_or (by assumption) (by first | assumption | exact Or.inl rfl | exact Or.inr rfl))
      · refine ⟨fun c77 => ?_, fun c78 => ?_⟩
        · exact h _ (by first | assumption | exact Or.inl rfl | exact Or.inr rfl | exact isB_or (by assumption) (by first | assumption | exact Or.inl rfl | exact Or.inr rfl))
        · exact h _ (by first | assumption | exact Or.inl rfl | exact Or.inr rfl | exact isB_or (by assumption) (by first | assumption | exact Or.inl rfl | exact Or.inr rfl))
set_option maxHeartbeats 2000000 in
theorem f_X4_add (μ : TMem) (a1 : Int32) (a2 : Int32) (a3 : Int32) (a4 : Int32) (hv : rng a4) {Q : TMem → Prop} (h : ∀ μ9 : TMem, Fr 1 μ μ9 → Q μ9) : wp_X4_add μ a1 a2 a3 a4 Q := by
  show wp_X6_put 36 μ (μ 35 8) a1 (fun (μ1 : TMem) => wp_X6_put 38 μ1 (μ1 35 8) a2 (fun (μ2 : TMem) => wp_X6_put 40 μ2 (μ2 35 8) a3 (fun (μ3 : TMem) => wp_X6_put 42 μ3 (μ3 35 8) a4 (fun (μ4 : TMem) => wp_X6_put 46 μ4 ((a1 * (32 : Int32)) + a2) (μ4 35 8) (fun (μ5 : TMem) => (¬ (μ5 35 9) = (-1 : Int32) → (Q (tms μ5 35 8 ((μ5 35 8) + (1 : Int32))))) ∧ ((μ5 35 9) = (-1 : Int32) → (wp_X4_isGoal μ5 (μ5 35 8) (3 : Int32) (fun (r7 : Int32) => (r7 = 0 → (Q (tms μ5 35 8 ((μ5 35 8) + (1 : Int32))))) ∧ (¬ r7 = 0 → (Q (tms (tms μ5 35 9 (μ5 35 8)) 35 8 (((tms μ5 35 9 (μ5 35 8)) 35 8) + (1 : Int32)))))))))))))
  refine f_X6_put 36 rfl μ (μ 35 8) a1 (Or.inl (by decide)) (fun μ1 hf79 => ?_)
  refine f_X6_put 38 rfl μ1 (μ1 35 8) a2 (Or.inl (by decide)) (fun μ2 hf80 => ?_)
  refine f_X6_put 40 rfl μ2 (μ2 35 8) a3 (Or.inl (by decide)) (fun μ3 hf81 => ?_)
  refine f_X6_put 42 rfl μ3 (μ3 35 8) a4 (Or.inr hv) (fun μ4 hf82 => ?_)
  refine f_X6_put 46 rfl μ4 ((a1 * (32 : Int32)) + a2) (μ4 35 8) (Or.inl (by decide)) (fun μ5 hf83 => ?_)
  refine ⟨fun c84 => ?_, fun c85 => ?_⟩
  · exact h _ (Fr.st (Fr.trans (Fr.trans (Fr.trans (Fr.trans (Fr.trans (Fr.rf) (Fr.up (by decide) hf79)) (Fr.up (by decide) hf80)) (Fr.up (by decide) hf81)) (Fr.up (by decide) hf82)) (Fr.up (by decide) hf83)) (by rw [show kd 35 = 4 from rfl] <;> rfl) (Or.inl (ne43 (K := 4) rfl (by decide))))
  · refine f_X4_isGoal μ5 (μ5 35 8) (3 : Int32) (fun r7 b86 => ?_)
    refine ⟨fun c87 => ?_, fun c88 => ?_⟩
    · exact h _ (Fr.st (Fr.trans (Fr.trans (Fr.trans (Fr.trans (Fr.trans (Fr.rf) (Fr.up (by decide) hf79)) (Fr.up (by decide) hf80)) (Fr.up (by decide) hf81)) (Fr.up (by decide) hf82)) (Fr.up (by decide) hf83)) (by rw [show kd 35 = 4 from rfl] <;> rfl) (Or.inl (ne43 (K := 4) rfl (by decide))))
    · exact h _ (Fr.st (Fr.st (Fr.trans (Fr.trans (Fr.trans (Fr.trans (Fr.trans (Fr.rf) (Fr.up (by decide) hf79)) (Fr.up (by decide) hf80)) (Fr.up (by decide) hf81)) (Fr.up (by decide) hf82)) (Fr.up (by decide) hf83)) (by rw [show kd 35 = 4 from rfl] <;> rfl) (Or.inl (ne43 (K := 4) rfl (by decide)))) (by rw [show kd 35 = 4 from rfl] <;> rfl) (Or.inl (ne43 (K := 4) rfl (by decide))))
set_option maxHeartbeats 2000000 in
theorem fl_wpl_X4_meet_63 (μ0 : TMem) (k1 : Nat) (hk1 : kd k1 = 5) (k2 : Nat) (hk2 : kd k2 = 5) (v12 : Int32) (v13 : Int32) (v14 : Int32) {K194 : TMem → Prop} {Q : Int32 → TMem → Prop} (hK194 : ∀ (u0 : TMem), Fr 1 μ0 u0 → K194 u0) (h : ∀ (r : Int32) (μ9 : TMem), isB r → Fr 1 μ0 μ9 → Q r μ9) : ∀ (n : Nat) (v11 : Int32) (μ15 : TMem), (((3 : Int32)).toInt - (v11).toInt).toNat < n → 0 ≤ (v11).toInt → Fr 1 μ0 μ15 → wpl_X4_meet_63 k1 k2 v12 v13 v14 K194 Q n v11 μ15 := by
  intro n
  induction n with
  | zero => intro v11 μ15 hm; exact absurd hm (Nat.not_lt_zero _)
  | succ n ih =>
    intro v11 μ15 hm hi hF
    show ((3 : Int32) ≤ v11 → (K194 μ15)) ∧ (¬ (3 : Int32) ≤ v11 → (((μ15 35 9) = (-1 : Int32) → (wp_X6_at 36 μ15 v12 (fun (r18 : Int32) => wp_X7_at k1 μ15 r18 v11 (fun (r21 : Int32) => wp_X6_at 38 μ15 v12 (fun (r24 : Int32) => wp_X7_at k2 μ15 r24 v11 (fun (r27 : Int32) => wp_X6_at 46 μ15 ((r21 * (32 : Int32)) + r27) (fun (r30 : Int32) => (¬ r30 = (-1 : Int32) → (wp_X6_at 46 μ15 ((r21 * (32 : Int32)) + r27) (fun (r34 : Int32) => wp_X6_put 44 μ15 ((v12 * (3 : Int32)) + v11) r34 (fun (μ37 : TMem) => wpl_X4_meet_63 k1 k2 v12 v13 v14 K194 Q n (v11 + (1 : Int32)) μ37)))) ∧ (r30 = (-1 : Int32) → (((μ15 35 8) < v13 → (wp_X4_add μ15 r21 r27 v12 v11 (fun (μ39 : TMem) => wp_X6_at 46 μ39 ((r21 * (32 : Int32)) + r27) (fun (r40 : Int32) => wp_X6_put 44 μ39 ((v12 * (3 : Int32)) + v11) r40 (fun (μ43 : TMem) => wpl_X4_meet_63 k1 k2 v12 v13 v14 K194 Q n (v11 + (1 : Int32)) μ43))))) ∧ (¬ (μ15 35 8) < v13 → (Q (0 : Int32) μ15))))))))))) ∧ (¬ (μ15 35 9) = (-1 : Int32) → ((¬ v14 = 0 → (wp_X6_at 36 μ15 v12 (fun (r45 : Int32) => wp_X7_at k1 μ15 r45 v11 (fun (r48 : Int32) => wp_X6_at 38 μ15 v12 (fun (r51 : Int32) => wp_X7_at k2 μ15 r51 v11 (fun (r54 : Int32) => wp_X6_at 46 μ15 ((r48 * (32 : Int32)) + r54) (fun (r57 : Int32) => (¬ r57 = (-1 : Int32) → (wp_X6_at 46 μ15 ((r48 * (32 : Int32)) + r54) (fun (r61 : Int32) => wp_X6_put 44 μ15 ((v12 * (3 : Int32)) + v11) r61 (fun (μ64 : TMem) => wpl_X4_meet_63 k1 k2 v12 v13 v14 K194 Q n (v11 + (1 : Int32)) μ64)))) ∧ (r57 = (-1 : Int32) → (((μ15 35 8) < v13 → (wp_X4_add μ15 r48 r54 v12 v11 (fun (μ66 : TMem) => wp_X6_at 46 μ66 ((r48 * (32 : Int32)) + r54) (fun (r67 : Int32) => wp_X6_put 44 μ66 ((v12 * (3 : Int32)) + v11) r67 (fun (μ70 : TMem) => wpl_X4_meet_63 k1 k2 v12 v13 v14 K194 Q n (v11 + (1 : Int32)) μ70))))) ∧ (¬ (μ15 35 8) < v13 → (Q (0 : Int32) μ15))))))))))) ∧ (v14 = 0 → (Q (1 : Int32) μ15))))))
    refine ⟨fun c_ex => ?_, fun c_in => ?_⟩
    · exact hK194 μ15 hF
    have c_lt : ¬ ((3 : Int32)) ≤ v11 := c_in
    refine ⟨fun c89 => ?_, fun c90 => ?_⟩
    · refine f_X6_at 36 rfl μ15 v12 (fun r18 => ?_)
      refine f_X7_at k1 (Or.inr hk1) μ15 r18 v11 (fun r21 => ?_)
      refine f_X6_at 38 rfl μ15 v12 (fun r24 => ?_)
      refine f_X7_at k2 (Or.inr hk2) μ15 r24 v11 (fun r27 => ?_)
      refine f_X6_at 46 rfl μ15 ((r21 * (32 : Int32)) + r27) (fun r30 => ?_)
      refine ⟨fun c91 => ?_, fun c92 => ?_⟩
      · refine f_X6_at 46 rfl μ15 ((r21 * (32 : Int32)) + r27) (fun r34 => ?_)
        refine f_X6_put 44 rfl μ15 ((v12 * (3 : Int32)) + v11) r34 (Or.inl (by decide)) (fun μ37 hf93 => ?_)
        exact ih (v11 + (1 : Int32)) μ37 (lt_m c_lt (by omega)) (lt_p (by assumption) c_lt) (Fr.trans hF (Fr.up (by decide) hf93))
      · refine ⟨fun c94 => ?_, fun c95 => ?_⟩
        · refine f_X4_add μ15 r21 r27 v12 v11 (rng3 hi c_lt) (fun μ39 hf96 => ?_)
          refine f_X6_at 46 rfl μ39 ((r21 * (32 : Int32)) + r27) (fun r40 => ?_)
          refine f_X6_put 44 rfl μ39 ((v12 * (3 : Int32)) + v11) r40 (Or.inl (by decide)) (fun μ43 hf97 => ?_)
          exact ih (v11 + (1 : Int32)) μ43 (lt_m c_lt (by omega)) (lt_p (by assumption) c_lt) (Fr.trans (Fr.trans hF (Fr.up (by decide) hf96)) (Fr.up (by decide) hf97))
        · exact h _ _ (by first | assumption | exact Or.inl rfl | exact Or.inr rfl | exact isB_or (by assumption) (by first | assumption | exact Or.inl rfl | exact Or.inr rfl)) hF
    · refine ⟨fun c98 => ?_, fun c99 => ?_⟩
      · refine f_X6_at 36 rfl μ15 v12 (fun r45 => ?_)
        refine f_X7_at k1 (Or.inr hk1) μ15 r45 v11 (fun r48 => ?_)
        refine f_X6_at 38 rfl μ15 v12 (fun r51 => ?_)
        refine f_X7_at k2 (Or.inr hk2) μ15 r51 v11 (fun r54 => ?_)
        refine f_X6_at 46 rfl μ15 ((r48 * (32 : Int32)) + r54) (fun r57 => ?_)
        refine ⟨fun c100 => ?_, fun c101 => ?_⟩
        · refine f_X6_at 46 rfl μ15 ((r48 * (32 : Int32)) + r54) (fun r61 => ?_)
          refine f_X6_put 44 rfl μ15 ((v12 * (3 : Int32)) + v11) r61 (Or.inl (by decide)) (fun μ64 hf102 => ?_)
          exact ih (v11 + (1 : Int32)) μ64 (lt_m c_lt (by omega)) (lt_p (by assumption) c_lt) (Fr.trans hF (Fr.up (by decide) hf102))
        · refine ⟨fun c103 => ?_, fun c104 => ?_⟩
          · refine f_X4_add μ15 r48 r54 v12 v11 (rng3 hi c_lt) (fun μ66 hf105 => ?_)
            refine f_X6_at 46 rfl μ66 ((r48 * (32 : Int32)) + r54) (fun r67 => ?_)
            refine f_X6_put 44 rfl μ66 ((v12 * (3 : Int32)) + v11) r67 (Or.inl (by decide)) (fun μ70 hf106 => ?_)
            exact ih (v11 + (1 : Int32)) μ70 (lt_m c_lt (by omega)) (lt_p (by assumption) c_lt) (Fr.trans (Fr.trans hF (Fr.up (by decide) hf105)) (Fr.up (by decide) hf106))
          · exact h _ _ (by first | assumption | exact Or.inl rfl | exact Or.inr rfl | exact isB_or (by assumption) (by first | assumption | exact Or.inl rfl | exact Or.inr rfl)) hF
      · exact h _ _ (by first | assumption | exact Or.inl rfl | exact Or.inr rfl | exact isB_or (by assumption) (by first | assumption | exact Or.inl rfl | exact Or.inr rfl)) hF
set_option maxHeartbeats 2000000 in
theorem fl_wpl_X4_meet_45 (μ0 : TMem) (k1 : Nat) (hk1 : kd k1 = 5) (k2 : Nat) (hk2 : kd k2 = 5) (v5 : Int32) (v6 : Int32) {Q : Int32 → TMem → Prop} (h : ∀ (r : Int32) (μ9 : TMem), isB r → Fr 1 μ0 μ9 → Q r μ9) : ∀ (n : Nat) (v4 : Int32) (μ7 : TMem), ((v5).toInt - (v4).toInt).toNat < n → 0 ≤ (v4).toInt → Fr 1 μ0 μ7 → wpl_X4_meet_45 k1 k2 v5 v6 Q n v4 μ7 := by
  intro n
  induction n with
  | zero => intro v4 μ7 hm; exact absurd hm (Nat.not_lt_zero _)
  | succ n ih =>
    intro v4 μ7 hm hi hF
    show (v5 ≤ v4 → (Q (1 : Int32) μ7)) ∧ (¬ v5 ≤ v4 → (((μ7 35 8) ≤ v4 → (Q (1 : Int32) μ7)) ∧ (¬ (μ7 35 8) ≤ v4 → (∃ n9x, wpl_X4_meet_63 k1 k2 v4 v5 v6 (fun (μ72 : TMem) => wpl_X4_meet_45 k1 k2 v5 v6 Q n (v4 + (1 : Int32)) μ72) Q n9x (0 : Int32) μ7))))
    refine ⟨fun c_ex => ?_, fun c_in => ?_⟩
    · exact h _ _ (by first | assumption | exact Or.inl rfl | exact Or.inr rfl | exact isB_or (by assumption) (by first | assumption | exact Or.inl rfl | exact Or.inr rfl)) hF
    have c_lt : ¬ (v5) ≤ v4 := c_in
    refine ⟨fun c107 => ?_, fun c108 => ?_⟩
    · exact h _ _ (by first | assumption | exact Or.inl rfl | exact Or.inr rfl | exact isB_or (by assumption) (by first | assumption | exact Or.inl rfl | exact Or.inr rfl)) hF
    · refine ⟨_, fl_wpl_X4_meet_63 μ7 k1 hk1 k2 hk2 v4 v5 v6 ?_ (fun r9 μ9 b9 f9 => h r9 μ9 b9 (Fr.trans hF (Fr.up (by decide) f9))) _ (0 : Int32) μ7 (Nat.lt_succ_self _) (by first | decide | omega) Fr.rf⟩
      · intro μ72 hf109
        exact ih (v4 + (1 : Int32)) μ72 (lt_m c_lt (by omega)) (lt_p (by assumption) c_lt) (Fr.trans hF (Fr.up (by decide) hf109))
set_option maxHeartbeats 2000000 in
theorem f_X4_meet (k1 : Nat) (hk1 : kd k1 = 5) (k2 : Nat) (hk2 : kd k2 = 5) (μ : TMem) (a3 : Int32) (a4 : Int32) {Q : Int32 → TMem → Prop} (h : ∀ (r : Int32) (μ9 : TMem), isB r → Fr 1 μ μ9 → Q r μ9) : wp_X4_meet k1 k2 μ a3 a4 Q := by
  show wp_X6_fill 46 μ (-1 : Int32) (fun (μ1 : TMem) => wp_X4_add (tms (tms (tms (tms μ1 35 6 (μ1 k1 2)) 35 7 ((tms μ1 35 6 (μ1 k1 2)) k2 2)) 35 8 (0 : Int32)) 35 9 (-1 : Int32)) (0 : Int32) (0 : Int32) (-1 : Int32) (-1 : Int32) (fun (μ2 : TMem) => ∃ n2x, wpl_X4_meet_45 k1 k2 a3 a4 Q n2x (0 : Int32) μ2))
  refine f_X6_fill 46 rfl μ (-1 : Int32) (by decide) (fun μ1 hf110 => ?_)
  refine f_X4_add (tms (tms (tms (tms μ1 35 6 (μ1 k1 2)) 35 7 ((tms μ1 35 6 (μ1 k1 2)) k2 2)) 35 8 (0 : Int32)) 35 9 (-1 : Int32)) (0 : Int32) (0 : Int32) (-1 : Int32) (-1 : Int32) ⟨by decide, by decide⟩ (fun μ2 hf111 => ?_)
  refine ⟨_, fl_wpl_X4_meet_45 μ2 k1 hk1 k2 hk2 a3 a4 (fun r9 μ9 b9 f9 => h r9 μ9 b9 (Fr.trans (Fr.trans (Fr.st (Fr.st (Fr.st (Fr.st (Fr.trans (Fr.rf) (Fr.up (by decide) hf110)) (by rw [show kd 35 = 4 from rfl] <;> rfl) (Or.inl (ne43 (K := 4) rfl (by decide)))) (by rw [show kd 35 = 4 from rfl] <;> rfl) (Or.inl (ne43 (K := 4) rfl (by decide)))) (by rw [show kd 35 = 4 from rfl] <;> rfl) (Or.inl (ne43 (K := 4) rfl (by decide)))) (by rw [show kd 35 = 4 from rfl] <;> rfl) (Or.inl (ne43 (K := 4) rfl (by decide)))) (Fr.up (by decide) hf111)) (Fr.up (by decide) f9))) _ (0 : Int32) μ2 (Nat.lt_succ_self _) (by first | decide | omega) Fr.rf⟩
set_option maxHeartbeats 2000000 in
theorem f_X9_meetPairs (k1 : Nat) (hk1 : kd k1 = 2) (k2 : Nat) (hk2 : kd k2 = 2) (μ : TMem) (a3 : Int32) (a4 : Int32) {Q : Int32 → TMem → Prop} (h : ∀ (r : Int32) (μ9 : TMem), isB r → Fr 2 μ μ9 → Q r μ9) : wp_X9_meetPairs k1 k2 μ a3 a4 Q := by
  show wp_X3_makeOneWay k1 51 μ (fun (r2 : Int32) (μ1 : TMem) => (r2 = 0 → (Q (0 : Int32) μ1)) ∧ (¬ r2 = 0 → (wp_X3_makeOneWay k2 53 μ1 (fun (r5 : Int32) (μ4 : TMem) => (r5 = 0 → (Q (0 : Int32) μ4)) ∧ (¬ r5 = 0 → (wp_X4_meet 51 53 μ4 a3 a4 (fun (r8 : Int32) (μ7 : TMem) => (r8 = 0 → (Q (0 : Int32) μ7)) ∧ (¬ r8 = 0 → (Q (1 : Int32) μ7)))))))))
  refine f_X3_makeOneWay k1 hk1 51 rfl μ (fun r2 μ1 b112 hf113 => ?_)
  refine ⟨fun c114 => ?_, fun c115 => ?_⟩
  · exact h _ _ (by first | assumption | exact Or.inl rfl | exact Or.inr rfl | exact isB_or (by assumption) (by first | assumption | exact Or.inl rfl | exact Or.inr rfl)) (Fr.trans (Fr.rf) (Fr.up (by decide) hf113))
  · refine f_X3_makeOneWay k2 hk2 53 rfl μ1 (fun r5 μ4 b116 hf117 => ?_)
    refine ⟨fun c118 => ?_, fun c119 => ?_⟩
    · exact h _ _ (by first | assumption | exact Or.inl rfl | exact Or.inr rfl | exact isB_or (by assumption) (by first | assumption | exact Or.inl rfl | exact Or.inr rfl)) (Fr.trans (Fr.trans (Fr.rf) (Fr.up (by decide) hf113)) (Fr.up (by decide) hf117))
    · refine f_X4_meet 51 rfl 53 rfl μ4 a3 a4 (fun r8 μ7 b120 hf121 => ?_)
      refine ⟨fun c122 => ?_, fun c123 => ?_⟩
      · exact h _ _ (by first | assumption | exact Or.inl rfl | exact Or.inr rfl | exact isB_or (by assumption) (by first | assumption | exact Or.inl rfl | exact Or.inr rfl)) (Fr.trans (Fr.trans (Fr.trans (Fr.rf) (Fr.up (by decide) hf113)) (Fr.up (by decide) hf117)) (Fr.up (by decide) hf121))
      · exact h _ _ (by first | assumption | exact Or.inl rfl | exact Or.inr rfl | exact isB_or (by assumption) (by first | assumption | exact Or.inl rfl | exact Or.inr rfl)) (Fr.trans (Fr.trans (Fr.trans (Fr.rf) (Fr.up (by decide) hf113)) (Fr.up (by decide) hf117)) (Fr.up (by decide) hf121))
set_option maxHeartbeats 2000000 in
theorem f_X4_target (μ : TMem) (a1 : Int32) (a2 : Int32) {Q : Int32 → Prop} (h : ∀ r : Int32, Q r) : wp_X4_target μ a1 a2 Q := by
  show wp_X6_at 44 μ ((a1 * (3 : Int32)) + a2) (fun (r1 : Int32) => Q r1)
  refine f_X6_at 44 rfl μ ((a1 * (3 : Int32)) + a2) (fun r1 => ?_)
  exact h _
set_option maxHeartbeats 2000000 in
theorem fl_wpl_X5_becomePairs_44 (μ0 : TMem) (k0 : Nat) (hk0 : kd k0 = 5) (v12 : Int32) (v13 : Int32) {K70 : TMem → Prop} (hK70 : ∀ (u0 : TMem), Fr 0 μ0 u0 → K70 u0) : ∀ (n : Nat) (v11 : Int32) (μ14 : TMem), (((3 : Int32)).toInt - (v11).toInt).toNat < n → 0 ≤ (v11).toInt → Fr 0 μ0 μ14 → wpl_X5_becomePairs_44 k0 v12 v13 K70 n v11 μ14 := by
  intro n
  induction n with
  | zero => intro v11 μ14 hm; exact absurd hm (Nat.not_lt_zero _)
  | succ n ih =>
    intro v11 μ14 hm hi hF
    show ((3 : Int32) ≤ v11 → (K70 μ14)) ∧ (¬ (3 : Int32) ≤ v11 → (wp_X4_target μ14 v12 v11 (fun (r16 : Int32) => wp_X7_put k0 μ14 v12 v11 r16 (fun (μ19 : TMem) => wpl_X5_becomePairs_44 k0 v12 v13 K70 n (v11 + (1 : Int32)) μ19))))
    refine ⟨fun c_ex => ?_, fun c_in => ?_⟩
    · exact hK70 μ14 hF
    have c_lt : ¬ ((3 : Int32)) ≤ v11 := c_in
    refine f_X4_target μ14 v12 v11 (fun r16 => ?_)
    refine f_X7_put k0 (Or.inr hk0) μ14 v12 v11 r16 (fun μ19 hf124 => ?_)
    exact ih (v11 + (1 : Int32)) μ19 (lt_m c_lt (by omega)) (lt_p (by assumption) c_lt) (Fr.trans hF (Fr.up (by decide) hf124))
set_option maxHeartbeats 2000000 in
theorem fl_wpl_X5_becomePairs_15 (μ0 : TMem) (k0 : Nat) (hk0 : kd k0 = 5) (v3 : Int32) {Q : TMem → Prop} (h : ∀ μ9 : TMem, Fr 1 μ0 μ9 → Q μ9) : ∀ (n : Nat) (v2 : Int32) (μ4 : TMem), (((μ0 k0 1)).toInt - (v2).toInt).toNat < n → 0 ≤ (v2).toInt → Fr 1 μ0 μ4 → wpl_X5_becomePairs_15 k0 v3 Q n v2 μ4 := by
  intro n
  induction n with
  | zero => intro v2 μ4 hm; exact absurd hm (Nat.not_lt_zero _)
  | succ n ih =>
    intro v2 μ4 hm hi hF
    show ((μ4 k0 1) ≤ v2 → (Q μ4)) ∧ (¬ (μ4 k0 1) ≤ v2 → (wp_X4_isGoal μ4 v2 v3 (fun (r6 : Int32) => wp_X9_withOrWithout (μ4 k0 2) v2 r6 (fun (r9 : Int32) => ∃ n9x, wpl_X5_becomePairs_44 k0 v2 v3 (fun (μ21 : TMem) => wpl_X5_becomePairs_15 k0 v3 Q n (v2 + (1 : Int32)) μ21) n9x (0 : Int32) (tms μ4 k0 2 r9)))))
    refine ⟨fun c_ex => ?_, fun c_in => ?_⟩
    · exact h _ hF
    have e_k0_1 : μ4 k0 1 = μ0 k0 1 := hF.1 k0 1 (by rw [show kd k0 = 5 from hk0] <;> rfl)
    have c_lt : ¬ ((μ0 k0 1)) ≤ v2 := by
      rw [e_k0_1] at c_in
      exact c_in
    refine f_X4_isGoal μ4 v2 v3 (fun r6 b125 => ?_)
    refine f_X9_withOrWithout (μ4 k0 2) v2 r6 (fun r9 => ?_)
    refine ⟨_, fl_wpl_X5_becomePairs_44 (tms μ4 k0 2 r9) k0 hk0 v2 v3 ?_ _ (0 : Int32) (tms μ4 k0 2 r9) (Nat.lt_succ_self _) (by first | decide | omega) Fr.rf⟩
    · intro μ21 hf126
      exact ih (v2 + (1 : Int32)) μ21 (lt_m c_lt (by omega)) (lt_p (by assumption) c_lt) (Fr.trans (Fr.st hF (by rw [show kd k0 = 5 from hk0] <;> rfl) (Or.inl (ne43 (K := 5) hk0 (by decide)))) (Fr.up (by decide) hf126))
set_option maxHeartbeats 2000000 in
theorem f_X5_becomePairs (k0 : Nat) (hk0 : kd k0 = 5) (μ : TMem) (a2 : Int32) {Q : TMem → Prop} (h : ∀ μ9 : TMem, Fr 2 μ μ9 → Q μ9) : wp_X5_becomePairs k0 μ a2 Q := by
  show ∃ n0x, wpl_X5_becomePairs_15 k0 a2 Q n0x (0 : Int32) (tms (tms μ k0 1 (μ 35 8)) k0 2 (0 : Int32))
  refine ⟨_, fl_wpl_X5_becomePairs_15 (tms (tms μ k0 1 (μ 35 8)) k0 2 (0 : Int32)) k0 hk0 a2 (fun μ9 f9 => h μ9 (Fr.trans (Fr.st (Fr.st (Fr.rf) (by rw [show kd k0 = 5 from hk0] <;> rfl) (Or.inl (ne43 (K := 5) hk0 (by decide)))) (by rw [show kd k0 = 5 from hk0] <;> rfl) (Or.inl (ne43 (K := 5) hk0 (by decide)))) (Fr.up (by decide) f9))) _ (0 : Int32) (tms (tms μ k0 1 (μ 35 8)) k0 2 (0 : Int32)) (Nat.lt_succ_self _) (by first | decide | omega) Fr.rf⟩
set_option maxHeartbeats 2000000 in
theorem f_X5_isGoal (k0 : Nat) (hk0 : kd k0 = 5) (μ : TMem) (a1 : Int32) {Q : Int32 → Prop} (h : ∀ r : Int32, isB r → Q r) : wp_X5_isGoal k0 μ a1 Q := by
  show wp_X9_isIn (μ k0 2) a1 (fun (r1 : Int32) => isB r1 ∧ Q r1)
  refine f_X9_isIn (μ k0 2) a1 (fun r1 b127 => ?_)
  refine ⟨(by first | assumption | exact Or.inl rfl | exact Or.inr rfl | exact isB_or (by assumption) (by first | assumption | exact Or.inl rfl | exact Or.inr rfl)), ?_⟩
  exact h _ (by first | assumption | exact Or.inl rfl | exact Or.inr rfl | exact isB_or (by assumption) (by first | assumption | exact Or.inl rfl | exact Or.inr rfl))
set_option maxHeartbeats 2000000 in
theorem fl_wpl_X1_firstOfGoalness_2 (k0 : Nat) (hk0 : kd k0 = 5) (μ : TMem) (v3 : Int32) {Q : Int32 → Prop} (h : ∀ r : Int32, Q r) : ∀ (n : Nat) (v2 : Int32), ((v3).toInt - (v2).toInt).toNat < n → 0 ≤ (v2).toInt → wpl_X1_firstOfGoalness_2 k0 μ v3 Q n v2 := by
  intro n
  induction n with
  | zero => intro v2 hm; exact absurd hm (Nat.not_lt_zero _)
  | succ n ih =>
    intro v2 hm hi
    show (v3 ≤ v2 → (Q v3)) ∧ (¬ v3 ≤ v2 → (wp_X5_isGoal k0 μ v2 (fun (r5 : Int32) => wp_X5_isGoal k0 μ v3 (fun (r8 : Int32) => (¬ r5 = r8 → (wpl_X1_firstOfGoalness_2 k0 μ v3 Q n (v2 + (1 : Int32)))) ∧ (r5 = r8 → (Q v2))))))
    refine ⟨fun c_ex => ?_, fun c_in => ?_⟩
    · exact h _
    have c_lt : ¬ (v3) ≤ v2 := c_in
    refine f_X5_isGoal k0 hk0 μ v2 (fun r5 b128 => ?_)
    refine f_X5_isGoal k0 hk0 μ v3 (fun r8 b129 => ?_)
    refine ⟨fun c130 => ?_, fun c131 => ?_⟩
    · exact ih (v2 + (1 : Int32)) (lt_m c_lt (by omega)) (lt_p (by assumption) c_lt)
    · exact h _
set_option maxHeartbeats 2000000 in
theorem f_X1_firstOfGoalness (k0 : Nat) (hk0 : kd k0 = 5) (μ : TMem) (a1 : Int32) {Q : Int32 → Prop} (h : ∀ r : Int32, Q r) : wp_X1_firstOfGoalness k0 μ a1 Q := by
  show ∃ n0x, wpl_X1_firstOfGoalness_2 k0 μ a1 Q n0x (0 : Int32)
  refine ⟨_, fl_wpl_X1_firstOfGoalness_2 k0 hk0 μ a1 h _ (0 : Int32) (Nat.lt_succ_self _) (by first | decide | omega)⟩
set_option maxHeartbeats 2000000 in
theorem fl_wpl_X1_codeOf_12 (k1 : Nat) (hk1 : kd k1 = 5) (μ : TMem) (v7 : Int32) {Q : Int32 → Prop} (h : ∀ r : Int32, Q r) : ∀ (n : Nat) (v5 : Int32) (v6 : Int32), (((3 : Int32)).toInt - (v5).toInt).toNat < n → 0 ≤ (v5).toInt → wpl_X1_codeOf_12 k1 μ v7 Q n v5 v6 := by
  intro n
  induction n with
  | zero => intro v5 v6 hm; exact absurd hm (Nat.not_lt_zero _)
  | succ n ih =>
    intro v5 v6 hm hi
    show ((3 : Int32) ≤ v5 → (Q v6)) ∧ (¬ (3 : Int32) ≤ v5 → (wp_X7_at k1 μ v7 v5 (fun (r9 : Int32) => wp_X6_at 23 μ r9 (fun (r12 : Int32) => wpl_X1_codeOf_12 k1 μ v7 Q n (v5 + (1 : Int32)) ((v6 * (32 : Int32)) + r12)))))
    refine ⟨fun c_ex => ?_, fun c_in => ?_⟩
    · exact h _
    have c_lt : ¬ ((3 : Int32)) ≤ v5 := c_in
    refine f_X7_at k1 (Or.inr hk1) μ v7 v5 (fun r9 => ?_)
    refine f_X6_at 23 rfl μ r9 (fun r12 => ?_)
    exact ih (v5 + (1 : Int32)) ((v6 * (32 : Int32)) + r12) (lt_m c_lt (by omega)) (lt_p (by assumption) c_lt)
set_option maxHeartbeats 2000000 in
theorem f_X1_codeOf (k1 : Nat) (hk1 : kd k1 = 5) (μ : TMem) (a2 : Int32) {Q : Int32 → Prop} (h : ∀ r : Int32, Q r) : wp_X1_codeOf k1 μ a2 Q := by
  show wp_X6_at 23 μ a2 (fun (r1 : Int32) => ∃ n3x, wpl_X1_codeOf_12 k1 μ a2 Q n3x (0 : Int32) r1)
  refine f_X6_at 23 rfl μ a2 (fun r1 => ?_)
  refine ⟨_, fl_wpl_X1_codeOf_12 k1 hk1 μ a2 h _ (0 : Int32) r1 (Nat.lt_succ_self _) (by first | decide | omega)⟩
set_option maxHeartbeats 2000000 in
theorem fl_wpl_X1_partOnce_2 (μ0 : TMem) (k1 : Nat) (hk1 : kd k1 = 5) {K30 : TMem → Prop} (hK30 : ∀ (u0 : TMem), Fr 0 μ0 u0 → K30 u0) : ∀ (n : Nat) (v2 : Int32) (μ3 : TMem), (((μ0 k1 1)).toInt - (v2).toInt).toNat < n → 0 ≤ (v2).toInt → Fr 0 μ0 μ3 → wpl_X1_partOnce_2 k1 K30 n v2 μ3 := by
  intro n
  induction n with
  | zero => intro v2 μ3 hm; exact absurd hm (Nat.not_lt_zero _)
  | succ n ih =>
    intro v2 μ3 hm hi hF
    show ((μ3 k1 1) ≤ v2 → (K30 μ3)) ∧ (¬ (μ3 k1 1) ≤ v2 → (wp_X1_codeOf k1 μ3 v2 (fun (r5 : Int32) => wp_X6_put 25 μ3 v2 r5 (fun (μ8 : TMem) => wpl_X1_partOnce_2 k1 K30 n (v2 + (1 : Int32)) μ8))))
    refine ⟨fun c_ex => ?_, fun c_in => ?_⟩
    · exact hK30 μ3 hF
    have e_k1_1 : μ3 k1 1 = μ0 k1 1 := hF.1 k1 1 (by rw [show kd k1 = 5 from hk1] <;> rfl)
    have c_lt : ¬ ((μ0 k1 1)) ≤ v2 := by
      rw [e_k1_1] at c_in
      exact c_in
    refine f_X1_codeOf k1 hk1 μ3 v2 (fun r5 => ?_)
    refine f_X6_put 25 rfl μ3 v2 r5 (Or.inl (by decide)) (fun μ8 hf132 => ?_)
    exact ih (v2 + (1 : Int32)) μ8 (lt_m c_lt (by omega)) (lt_p (by assumption) c_lt) (Fr.trans hF (Fr.up (by decide) hf132))
set_option maxHeartbeats 2000000 in
theorem fl_wpl_X1_partOnce_34 (μ0 : TMem) (k1 : Nat) (hk1 : kd k1 = 5) {Q : Int32 → TMem → Prop} (h : ∀ (r : Int32) (μ9 : TMem), isB r → Fr 0 μ0 μ9 → Q r μ9) : ∀ (n : Nat) (v12 : Int32) (v13 : Int32) (μ14 : TMem), (((μ0 k1 1)).toInt - (v12).toInt).toNat < n → 0 ≤ (v12).toInt → isB v13 → Fr 0 μ0 μ14 → wpl_X1_partOnce_34 k1 Q n v12 v13 μ14 := by
  intro n
  induction n with
  | zero => intro v12 v13 μ14 hm; exact absurd hm (Nat.not_lt_zero _)
  | succ n ih =>
    intro v12 v13 μ14 hm hi bv13 hF
    show ((μ14 k1 1) ≤ v12 → (isB v13 ∧ Q v13 μ14)) ∧ (¬ (μ14 k1 1) ≤ v12 → (wp_X6_at 25 μ14 v12 (fun (r17 : Int32) => wp_X6_find 25 μ14 r17 (μ14 k1 1) (fun (r20 : Int32) => wp_X6_at 23 μ14 v12 (fun (r23 : Int32) => ∀ J26 : Int32 → Prop, (∀ (j27 : Int32), (wp_X6_put 23 μ14 v12 r20 (fun (μ28 : TMem) => wpl_X1_partOnce_34 k1 Q n (v12 + (1 : Int32)) (v13 ||| j27) μ28)) → J26 j27) → ((r20 = r23 → (J26 (0 : Int32))) ∧ (¬ r20 = r23 → (J26 (1 : Int32)))))))))
    refine ⟨fun c_ex => ?_, fun c_in => ?_⟩
    · refine ⟨(by first | assumption | exact Or.inl rfl | exact Or.inr rfl | exact isB_or (by assumption) (by first | assumption | exact Or.inl rfl | exact Or.inr rfl)), ?_⟩
      exact h _ _ (by first | assumption | exact Or.inl rfl | exact Or.inr rfl | exact isB_or (by assumption) (by first | assumption | exact Or.inl rfl | exact Or.inr rfl)) hF
    have e_k1_1 : μ14 k1 1 = μ0 k1 1 := hF.1 k1 1 (by rw [show kd k1 = 5 from hk1] <;> rfl)
    have c_lt : ¬ ((μ0 k1 1)) ≤ v12 := by
      rw [e_k1_1] at c_in
      exact c_in
    refine f_X6_at 25 rfl μ14 v12 (fun r17 => ?_)
    refine f_X6_find 25 rfl μ14 r17 (μ14 k1 1) (fun r20 => ?_)
    refine f_X6_at 23 rfl μ14 v12 (fun r23 => ?_)
    intro J26 hJ26
    refine ⟨fun c133 => ?_, fun c134 => ?_⟩
    · refine hJ26 (0 : Int32) ?_
      refine f_X6_put 23 rfl μ14 v12 r20 (Or.inl (by decide)) (fun μ28 hf135 => ?_)
      exact ih (v12 + (1 : Int32)) (v13 ||| (0 : Int32)) μ28 (lt_m c_lt (by omega)) (lt_p (by assumption) c_lt) (by first | assumption | exact Or.inl rfl | exact Or.inr rfl | exact isB_or (by assumption) (by first | assumption | exact Or.inl rfl | exact Or.inr rfl)) (Fr.trans hF (Fr.up (by decide) hf135))
    · refine hJ26 (1 : Int32) ?_
      refine f_X6_put 23 rfl μ14 v12 r20 (Or.inl (by decide)) (fun μ28 hf136 => ?_)
      exact ih (v12 + (1 : Int32)) (v13 ||| (1 : Int32)) μ28 (lt_m c_lt (by omega)) (lt_p (by assumption) c_lt) (by first | assumption | exact Or.inl rfl | exact Or.inr rfl | exact isB_or (by assumption) (by first | assumption | exact Or.inl rfl | exact Or.inr rfl)) (Fr.trans hF (Fr.up (by decide) hf136))
set_option maxHeartbeats 2000000 in
theorem f_X1_partOnce (k1 : Nat) (hk1 : kd k1 = 5) (μ : TMem)  {Q : Int32 → TMem → Prop} (h : ∀ (r : Int32) (μ9 : TMem), isB r → Fr 0 μ μ9 → Q r μ9) : wp_X1_partOnce k1 μ Q := by
  show ∃ n0x, wpl_X1_partOnce_2 k1 (fun (μ10 : TMem) => ∃ n10x, wpl_X1_partOnce_34 k1 Q n10x (0 : Int32) (0 : Int32) μ10) n0x (0 : Int32) μ
  refine ⟨_, fl_wpl_X1_partOnce_2 μ k1 hk1 ?_ _ (0 : Int32) μ (Nat.lt_succ_self _) (by first | decide | omega) Fr.rf⟩
  · intro μ10 hf137
    refine ⟨_, fl_wpl_X1_partOnce_34 μ10 k1 hk1 (fun r9 μ9 b9 f9 => h r9 μ9 b9 (Fr.trans (Fr.trans (Fr.rf) (Fr.up (by decide) hf137)) (Fr.up (by decide) f9))) _ (0 : Int32) (0 : Int32) μ10 (Nat.lt_succ_self _) (by first | decide | omega) (by first | assumption | exact Or.inl rfl | exact Or.inr rfl | exact isB_or (by assumption) (by first | assumption | exact Or.inl rfl | exact Or.inr rfl)) Fr.rf⟩
set_option maxHeartbeats 2000000 in
theorem fl_wpl_X1_findByParting_2 (μ0 : TMem) (k1 : Nat) (hk1 : kd k1 = 5) {K29 : TMem → Prop} (hK29 : ∀ (u0 : TMem), Fr 0 μ0 u0 → K29 u0) : ∀ (n : Nat) (v2 : Int32) (μ3 : TMem), (((μ0 k1 1)).toInt - (v2).toInt).toNat < n → 0 ≤ (v2).toInt → Fr 0 μ0 μ3 → wpl_X1_findByParting_2 k1 K29 n v2 μ3 := by
  intro n
  induction n with
  | zero => intro v2 μ3 hm; exact absurd hm (Nat.not_lt_zero _)
  | succ n ih =>
    intro v2 μ3 hm hi hF
    show ((μ3 k1 1) ≤ v2 → (K29 μ3)) ∧ (¬ (μ3 k1 1) ≤ v2 → (wp_X1_firstOfGoalness k1 μ3 v2 (fun (r5 : Int32) => wp_X6_put 23 μ3 v2 r5 (fun (μ8 : TMem) => wpl_X1_findByParting_2 k1 K29 n (v2 + (1 : Int32)) μ8))))
    refine ⟨fun c_ex => ?_, fun c_in => ?_⟩
    · exact hK29 μ3 hF
    have e_k1_1 : μ3 k1 1 = μ0 k1 1 := hF.1 k1 1 (by rw [show kd k1 = 5 from hk1] <;> rfl)
    have c_lt : ¬ ((μ0 k1 1)) ≤ v2 := by
      rw [e_k1_1] at c_in
      exact c_in
    refine f_X1_firstOfGoalness k1 hk1 μ3 v2 (fun r5 => ?_)
    refine f_X6_put 23 rfl μ3 v2 r5 (Or.inl (by decide)) (fun μ8 hf138 => ?_)
    exact ih (v2 + (1 : Int32)) μ8 (lt_m c_lt (by omega)) (lt_p (by assumption) c_lt) (Fr.trans hF (Fr.up (by decide) hf138))
set_option maxHeartbeats 2000000 in
theorem fl_wpl_X1_findByParting_33 (μ0 : TMem) (k1 : Nat) (hk1 : kd k1 = 5) {Q : TMem → Prop} (h : ∀ μ9 : TMem, Fr 0 μ0 μ9 → Q μ9) : ∀ (n : Nat) (v12 : Int32) (v13 : Int32) (μ14 : TMem), (((32 : Int32)).toInt - (v12).toInt).toNat < n → 0 ≤ (v12).toInt → Fr 0 μ0 μ14 → wpl_X1_findByParting_33 k1 Q n v12 v13 μ14 := by
  intro n
  induction n with
  | zero => intro v12 v13 μ14 hm; exact absurd hm (Nat.not_lt_zero _)
  | succ n ih =>
    intro v12 v13 μ14 hm hi hF
    show ((32 : Int32) ≤ v12 → (Q μ14)) ∧ (¬ (32 : Int32) ≤ v12 → ((v13 = 0 → (Q μ14)) ∧ (¬ v13 = 0 → (wp_X1_partOnce k1 μ14 (fun (r18 : Int32) (μ17 : TMem) => wpl_X1_findByParting_33 k1 Q n (v12 + (1 : Int32)) r18 μ17)))))
    refine ⟨fun c_ex => ?_, fun c_in => ?_⟩
    · exact h _ hF
    have c_lt : ¬ ((32 : Int32)) ≤ v12 := c_in
    refine ⟨fun c139 => ?_, fun c140 => ?_⟩
    · exact h _ hF
    · refine f_X1_partOnce k1 hk1 μ14 (fun r18 μ17 b141 hf142 => ?_)
      exact ih (v12 + (1 : Int32)) r18 μ17 (lt_m c_lt (by omega)) (lt_p (by assumption) c_lt) (Fr.trans hF (Fr.up (by decide) hf142))
set_option maxHeartbeats 2000000 in
theorem f_X1_findByParting (k1 : Nat) (hk1 : kd k1 = 5) (μ : TMem)  {Q : TMem → Prop} (h : ∀ μ9 : TMem, Fr 0 μ μ9 → Q μ9) : wp_X1_findByParting k1 μ Q := by
  show ∃ n0x, wpl_X1_findByParting_2 k1 (fun (μ10 : TMem) => ∃ n10x, wpl_X1_findByParting_33 k1 Q n10x (0 : Int32) (1 : Int32) μ10) n0x (0 : Int32) μ
  refine ⟨_, fl_wpl_X1_findByParting_2 μ k1 hk1 ?_ _ (0 : Int32) μ (Nat.lt_succ_self _) (by first | decide | omega) Fr.rf⟩
  · intro μ10 hf143
    refine ⟨_, fl_wpl_X1_findByParting_33 μ10 k1 hk1 (fun μ9 f9 => h μ9 (Fr.trans (Fr.trans (Fr.rf) (Fr.up (by decide) hf143)) (Fr.up (by decide) f9))) _ (0 : Int32) (1 : Int32) μ10 (Nat.lt_succ_self _) (by first | decide | omega) Fr.rf⟩
set_option maxHeartbeats 2000000 in
theorem f_X1_partOf (μ : TMem) (a1 : Int32) {Q : Int32 → Prop} (h : ∀ r : Int32, Q r) : wp_X1_partOf μ a1 Q := by
  show wp_X6_at 23 μ a1 (fun (r1 : Int32) => Q r1)
  refine f_X6_at 23 rfl μ a1 (fun r1 => ?_)
  exact h _
set_option maxHeartbeats 2000000 in
theorem f_X3_groupNumber (k2 : Nat) (hk2 : kd k2 = 5) (μ : TMem) (a1 : Int32) {Q : Int32 → TMem → Prop} (h : ∀ (r : Int32) (μ9 : TMem), Fr 2 μ μ9 → Q r μ9) : wp_X3_groupNumber k2 μ a1 Q := by
  show wp_X1_partOf μ a1 (fun (r1 : Int32) => wp_X6_at 20 μ r1 (fun (r4 : Int32) => ∀ J7 : TMem → Prop, (∀ (μ8 : TMem), (wp_X6_at 20 μ8 r1 (fun (r9 : Int32) => Q r9 μ8)) → J7 μ8) → ((¬ r4 = (-1 : Int32) → (wp_X6_at 20 μ r1 (fun (r13 : Int32) => Q r13 μ))) ∧ (r4 = (-1 : Int32) → (wp_X6_put 20 μ r1 (μ k2 1) (fun (μ16 : TMem) => wp_X6_put 18 μ16 (μ16 k2 1) a1 (fun (μ17 : TMem) => J7 (tms μ17 k2 1 ((μ17 k2 1) + (1 : Int32))))))))))
  refine f_X1_partOf μ a1 (fun r1 => ?_)
  refine f_X6_at 20 rfl μ r1 (fun r4 => ?_)
  intro J7 hJ7
  refine ⟨fun c144 => ?_, fun c145 => ?_⟩
  · refine f_X6_at 20 rfl μ r1 (fun r13 => ?_)
    exact h _ _ (Fr.rf)
  · refine f_X6_put 20 rfl μ r1 (μ k2 1) (Or.inl (by decide)) (fun μ16 hf146 => ?_)
    refine f_X6_put 18 rfl μ16 (μ16 k2 1) a1 (Or.inl (by decide)) (fun μ17 hf147 => ?_)
    refine hJ7 (tms μ17 k2 1 ((μ17 k2 1) + (1 : Int32))) ?_
    refine f_X6_at 20 rfl (tms μ17 k2 1 ((μ17 k2 1) + (1 : Int32))) r1 (fun r9 => ?_)
    exact h _ _ (Fr.st (Fr.trans (Fr.trans (Fr.rf) (Fr.up (by decide) hf146)) (Fr.up (by decide) hf147)) (by rw [show kd k2 = 5 from hk2] <;> rfl) (Or.inl (ne43 (K := 5) hk2 (by decide))))
set_option maxHeartbeats 2000000 in
theorem fl_wpl_X3_makeGroups_90 (μ0 : TMem) (k1 : Nat) (hk1 : kd k1 = 5) (k2 : Nat) (hk2 : kd k2 = 5) (v21 : Int32) (v22 : Int32) {K122 : TMem → Prop} (hK122 : ∀ (u0 : TMem), Fr 2 μ0 u0 → K122 u0) : ∀ (n : Nat) (v20 : Int32) (μ23 : TMem), (((3 : Int32)).toInt - (v20).toInt).toNat < n → 0 ≤ (v20).toInt → Fr 2 μ0 μ23 → wpl_X3_makeGroups_90 k1 k2 v21 v22 K122 n v20 μ23 := by
  intro n
  induction n with
  | zero => intro v20 μ23 hm; exact absurd hm (Nat.not_lt_zero _)
  | succ n ih =>
    intro v20 μ23 hm hi hF
    show ((3 : Int32) ≤ v20 → (K122 μ23)) ∧ (¬ (3 : Int32) ≤ v20 → (wp_X7_at k1 μ23 v21 v20 (fun (r25 : Int32) => wp_X3_groupNumber k2 μ23 r25 (fun (r29 : Int32) (μ28 : TMem) => wp_X7_put k2 μ28 v22 v20 r29 (fun (μ30 : TMem) => wpl_X3_makeGroups_90 k1 k2 v21 v22 K122 n (v20 + (1 : Int32)) μ30)))))
    refine ⟨fun c_ex => ?_, fun c_in => ?_⟩
    · exact hK122 μ23 hF
    have c_lt : ¬ ((3 : Int32)) ≤ v20 := c_in
    refine f_X7_at k1 (Or.inr hk1) μ23 v21 v20 (fun r25 => ?_)
    refine f_X3_groupNumber k2 hk2 μ23 r25 (fun r29 μ28 hf148 => ?_)
    refine f_X7_put k2 (Or.inr hk2) μ28 v22 v20 r29 (fun μ30 hf149 => ?_)
    exact ih (v20 + (1 : Int32)) μ30 (lt_m c_lt (by omega)) (lt_p (by assumption) c_lt) (Fr.trans (Fr.trans hF (Fr.up (by decide) hf148)) (Fr.up (by decide) hf149))
set_option maxHeartbeats 2000000 in
theorem fl_wpl_X3_makeGroups_45 (μ0 : TMem) (k1 : Nat) (hk1 : kd k1 = 5) (k2 : Nat) (hk2 : kd k2 = 5) {Q : TMem → Prop} (h : ∀ μ9 : TMem, Fr 2 μ0 μ9 → Q μ9) : ∀ (n : Nat) (v8 : Int32) (μ9 : TMem), (((32 : Int32)).toInt - (v8).toInt).toNat < n → 0 ≤ (v8).toInt → Fr 2 μ0 μ9 → wpl_X3_makeGroups_45 k1 k2 Q n v8 μ9 := by
  intro n
  induction n with
  | zero => intro v8 μ9 hm; exact absurd hm (Nat.not_lt_zero _)
  | succ n ih =>
    intro v8 μ9 hm hi hF
    show ((32 : Int32) ≤ v8 → (Q μ9)) ∧ (¬ (32 : Int32) ≤ v8 → (((μ9 k2 1) ≤ v8 → (Q μ9)) ∧ (¬ (μ9 k2 1) ≤ v8 → (wp_X6_at 18 μ9 v8 (fun (r12 : Int32) => wp_X5_isGoal k1 μ9 r12 (fun (r15 : Int32) => wp_X9_withOrWithout (μ9 k2 2) v8 r15 (fun (r18 : Int32) => ∃ n18x, wpl_X3_makeGroups_90 k1 k2 r12 v8 (fun (μ32 : TMem) => wpl_X3_makeGroups_45 k1 k2 Q n (v8 + (1 : Int32)) μ32) n18x (0 : Int32) (tms μ9 k2 2 r18))))))))
    refine ⟨fun c_ex => ?_, fun c_in => ?_⟩
    · exact h _ hF
    have c_lt : ¬ ((32 : Int32)) ≤ v8 := c_in
    refine ⟨fun c150 => ?_, fun c151 => ?_⟩
    · exact h _ hF
    · refine f_X6_at 18 rfl μ9 v8 (fun r12 => ?_)
      refine f_X5_isGoal k1 hk1 μ9 r12 (fun r15 b152 => ?_)
      refine f_X9_withOrWithout (μ9 k2 2) v8 r15 (fun r18 => ?_)
      refine ⟨_, fl_wpl_X3_makeGroups_90 (tms μ9 k2 2 r18) k1 hk1 k2 hk2 r12 v8 ?_ _ (0 : Int32) (tms μ9 k2 2 r18) (Nat.lt_succ_self _) (by first | decide | omega) Fr.rf⟩
      · intro μ32 hf153
        exact ih (v8 + (1 : Int32)) μ32 (lt_m c_lt (by omega)) (lt_p (by assumption) c_lt) (Fr.trans (Fr.st hF (by rw [show kd k2 = 5 from hk2] <;> rfl) (Or.inl (ne43 (K := 5) hk2 (by decide)))) (Fr.up (by decide) hf153))
set_option maxHeartbeats 2000000 in
theorem f_X3_makeGroups (k1 : Nat) (hk1 : kd k1 = 5) (k2 : Nat) (hk2 : kd k2 = 5) (μ : TMem)  {Q : TMem → Prop} (h : ∀ μ9 : TMem, Fr 2 μ μ9 → Q μ9) : wp_X3_makeGroups k1 k2 μ Q := by
  show wp_X6_fill 20 μ (-1 : Int32) (fun (μ1 : TMem) => wp_X1_partOf μ1 (0 : Int32) (fun (r2 : Int32) => wp_X6_put 20 μ1 r2 (0 : Int32) (fun (μ5 : TMem) => wp_X6_put 18 μ5 (0 : Int32) (0 : Int32) (fun (μ6 : TMem) => ∃ n6x, wpl_X3_makeGroups_45 k1 k2 Q n6x (0 : Int32) (tms (tms μ6 k2 1 (1 : Int32)) k2 2 (0 : Int32))))))
  refine f_X6_fill 20 rfl μ (-1 : Int32) (by decide) (fun μ1 hf154 => ?_)
  refine f_X1_partOf μ1 (0 : Int32) (fun r2 => ?_)
  refine f_X6_put 20 rfl μ1 r2 (0 : Int32) (Or.inl (by decide)) (fun μ5 hf155 => ?_)
  refine f_X6_put 18 rfl μ5 (0 : Int32) (0 : Int32) (Or.inl (by decide)) (fun μ6 hf156 => ?_)
  refine ⟨_, fl_wpl_X3_makeGroups_45 (tms (tms μ6 k2 1 (1 : Int32)) k2 2 (0 : Int32)) k1 hk1 k2 hk2 (fun μ9 f9 => h μ9 (Fr.trans (Fr.st (Fr.st (Fr.trans (Fr.trans (Fr.trans (Fr.rf) (Fr.up (by decide) hf154)) (Fr.up (by decide) hf155)) (Fr.up (by decide) hf156)) (by rw [show kd k2 = 5 from hk2] <;> rfl) (Or.inl (ne43 (K := 5) hk2 (by decide)))) (by rw [show kd k2 = 5 from hk2] <;> rfl) (Or.inl (ne43 (K := 5) hk2 (by decide)))) (Fr.up (by decide) f9))) _ (0 : Int32) (tms (tms μ6 k2 1 (1 : Int32)) k2 2 (0 : Int32)) (Nat.lt_succ_self _) (by first | decide | omega) Fr.rf⟩
end
/-! part 85.t2 -/
section
set_option maxHeartbeats 2000000 in
theorem f_X3_lessen (k1 : Nat) (hk1 : kd k1 = 5) (k2 : Nat) (hk2 : kd k2 = 5) (μ : TMem)  {Q : TMem → Prop} (h : ∀ μ9 : TMem, Fr 2 μ μ9 → Q μ9) : wp_X3_lessen k1 k2 μ Q := by
  show wp_X1_findByParting k1 μ (fun (μ1 : TMem) => wp_X3_makeGroups k1 k2 μ1 (fun (μ2 : TMem) => Q μ2))
  refine f_X1_findByParting k1 hk1 μ (fun μ1 hf157 => ?_)
  refine f_X3_makeGroups k1 hk1 k2 hk2 μ1 (fun μ2 hf158 => ?_)
  exact h _ (Fr.trans (Fr.trans (Fr.rf) (Fr.up (by decide) hf157)) (Fr.up (by decide) hf158))
set_option maxHeartbeats 2000000 in
theorem f_X9_putTogether (k1 : Nat) (hk1 : kd k1 = 2) (k2 : Nat) (hk2 : kd k2 = 2) (μ : TMem) (a3 : Int32) {Q : Int32 → TMem → Prop} (h : ∀ (r : Int32) (μ9 : TMem), isB r → Fr 2 μ μ9 → Q r μ9) : wp_X9_putTogether k1 k2 μ a3 Q := by
  show wp_X9_meetPairs k1 k2 μ (32 : Int32) (1 : Int32) (fun (r2 : Int32) (μ1 : TMem) => (¬ r2 = 0 → (wp_X5_becomePairs 55 μ1 a3 (fun (μ4 : TMem) => wp_X3_lessen 55 57 μ4 (fun (μ5 : TMem) => Q (1 : Int32) μ5)))) ∧ (r2 = 0 → (Q (0 : Int32) μ1)))
  refine f_X9_meetPairs k1 hk1 k2 hk2 μ (32 : Int32) (1 : Int32) (fun r2 μ1 b159 hf160 => ?_)
  refine ⟨fun c161 => ?_, fun c162 => ?_⟩
  · refine f_X5_becomePairs 55 rfl μ1 a3 (fun μ4 hf163 => ?_)
    refine f_X3_lessen 55 rfl 57 rfl μ4 (fun μ5 hf164 => ?_)
    exact h _ _ (by first | assumption | exact Or.inl rfl | exact Or.inr rfl | exact isB_or (by assumption) (by first | assumption | exact Or.inl rfl | exact Or.inr rfl)) (Fr.trans (Fr.trans (Fr.trans (Fr.rf) (Fr.up (by decide) hf160)) (Fr.up (by decide) hf163)) (Fr.up (by decide) hf164))
  · exact h _ _ (by first | assumption | exact Or.inl rfl | exact Or.inr rfl | exact isB_or (by assumption) (by first | assumption | exact Or.inl rfl | exact Or.inr rfl)) (Fr.trans (Fr.rf) (Fr.up (by decide) hf160))
set_option maxHeartbeats 2000000 in
theorem fl_wpl_X5_stateAfter_8 (k0 : Nat) (hk0 : kd k0 = 5) (μ : TMem) (v5 : Int32) {Q : Int32 → Prop} (h : ∀ r : Int32, Q r) : ∀ (n : Nat) (v2 : Int32) (v3 : Int32) (v4 : Int32), ((v5).toInt - (v2).toInt).toNat < n → 0 ≤ (v2).toInt → wpl_X5_stateAfter_8 k0 μ v5 Q n v2 v3 v4 := by
  intro n
  induction n with
  | zero => intro v2 v3 v4 hm; exact absurd hm (Nat.not_lt_zero _)
  | succ n ih =>
    intro v2 v3 v4 hm hi
    show (v5 ≤ v2 → (Q v4)) ∧ (¬ v5 ≤ v2 → (wp_X7_at k0 μ v4 (v3 - v3 / (3 : Int32) * (3 : Int32)) (fun (r7 : Int32) => wpl_X5_stateAfter_8 k0 μ v5 Q n (v2 + (1 : Int32)) (v3 / (3 : Int32)) r7)))
    refine ⟨fun c_ex => ?_, fun c_in => ?_⟩
    · exact h _
    have c_lt : ¬ (v5) ≤ v2 := c_in
    refine f_X7_at k0 (Or.inr hk0) μ v4 (v3 - v3 / (3 : Int32) * (3 : Int32)) (fun r7 => ?_)
    exact ih (v2 + (1 : Int32)) (v3 / (3 : Int32)) r7 (lt_m c_lt (by omega)) (lt_p (by assumption) c_lt)
set_option maxHeartbeats 2000000 in
theorem f_X5_stateAfter (k0 : Nat) (hk0 : kd k0 = 5) (μ : TMem) (a1 : Int32) (a2 : Int32) {Q : Int32 → Prop} (h : ∀ r : Int32, Q r) : wp_X5_stateAfter k0 μ a1 a2 Q := by
  show ∃ n0x, wpl_X5_stateAfter_8 k0 μ a1 Q n0x (0 : Int32) a2 (0 : Int32)
  refine ⟨_, fl_wpl_X5_stateAfter_8 k0 hk0 μ a1 h _ (0 : Int32) a2 (0 : Int32) (Nat.lt_succ_self _) (by first | decide | omega)⟩
set_option maxHeartbeats 2000000 in
theorem fl_wpl_X2_statesAfter_11 (k0 : Nat) (hk0 : kd k0 = 2) (μ : TMem) (v5 : Int32) {Q : Int32 → Prop} (h : ∀ r : Int32, Q r) : ∀ (n : Nat) (v2 : Int32) (v3 : Int32) (v4 : Int32), ((v5).toInt - (v2).toInt).toNat < n → 0 ≤ (v2).toInt → wpl_X2_statesAfter_11 k0 μ v5 Q n v2 v3 v4 := by
  intro n
  induction n with
  | zero => intro v2 v3 v4 hm; exact absurd hm (Nat.not_lt_zero _)
  | succ n ih =>
    intro v2 v3 v4 hm hi
    show (v5 ≤ v2 → (Q v4)) ∧ (¬ v5 ≤ v2 → (wp_X2_reach k0 μ v4 (v3 - v3 / (3 : Int32) * (3 : Int32)) (fun (r7 : Int32) => wpl_X2_statesAfter_11 k0 μ v5 Q n (v2 + (1 : Int32)) (v3 / (3 : Int32)) r7)))
    refine ⟨fun c_ex => ?_, fun c_in => ?_⟩
    · exact h _
    have c_lt : ¬ (v5) ≤ v2 := c_in
    refine f_X2_reach k0 hk0 μ v4 (v3 - v3 / (3 : Int32) * (3 : Int32)) (fun r7 => ?_)
    exact ih (v2 + (1 : Int32)) (v3 / (3 : Int32)) r7 (lt_m c_lt (by omega)) (lt_p (by assumption) c_lt)
set_option maxHeartbeats 2000000 in
theorem f_X2_statesAfter (k0 : Nat) (hk0 : kd k0 = 2) (μ : TMem) (a1 : Int32) (a2 : Int32) {Q : Int32 → Prop} (h : ∀ r : Int32, Q r) : wp_X2_statesAfter k0 μ a1 a2 Q := by
  show ∃ n0x, wpl_X2_statesAfter_11 k0 μ a1 Q n0x (0 : Int32) a2 (μ k0 3)
  refine ⟨_, fl_wpl_X2_statesAfter_11 k0 hk0 μ a1 h _ (0 : Int32) a2 (μ k0 3) (Nat.lt_succ_self _) (by first | decide | omega)⟩
set_option maxHeartbeats 2000000 in
theorem f_X2_isTaking (k0 : Nat) (hk0 : kd k0 = 2) (μ : TMem) (a1 : Int32) (a2 : Int32) {Q : Int32 → Prop} (h : ∀ r : Int32, isB r → Q r) : wp_X2_isTaking k0 μ a1 a2 Q := by
  show wp_X2_statesAfter k0 μ a1 a2 (fun (r1 : Int32) => ((r1 &&& (μ k0 2)) = 0 → (Q (0 : Int32))) ∧ (¬ (r1 &&& (μ k0 2)) = 0 → (Q (1 : Int32))))
  refine f_X2_statesAfter k0 hk0 μ a1 a2 (fun r1 => ?_)
  refine ⟨fun c165 => ?_, fun c166 => ?_⟩
  · exact h _ (by first | assumption | exact Or.inl rfl | exact Or.inr rfl | exact isB_or (by assumption) (by first | assumption | exact Or.inl rfl | exact Or.inr rfl))
  · exact h _ (by first | assumption | exact Or.inl rfl | exact Or.inr rfl | exact isB_or (by assumption) (by first | assumption | exact Or.inl rfl | exact Or.inr rfl))
set_option maxHeartbeats 2000000 in
theorem fl_wpl_X9_isTakingTheSame_15 (k1 : Nat) (hk1 : kd k1 = 2) (μ : TMem) (v7 : Int32) (v8 : Int32) {K56 : Prop} {Q : Int32 → Prop} (hK56 : K56) (h : ∀ r : Int32, isB r → Q r) : ∀ (n : Nat) (v6 : Int32), ((v7).toInt - (v6).toInt).toNat < n → 0 ≤ (v6).toInt → wpl_X9_isTakingTheSame_15 k1 μ v7 v8 K56 Q n v6 := by
  intro n
  induction n with
  | zero => intro v6 hm; exact absurd hm (Nat.not_lt_zero _)
  | succ n ih =>
    intro v6 hm hi
    show (v7 ≤ v6 → (K56)) ∧ (¬ v7 ≤ v6 → (wp_X5_stateAfter 57 μ v8 v6 (fun (r10 : Int32) => wp_X5_isGoal 57 μ r10 (fun (r13 : Int32) => wp_X2_isTaking k1 μ v8 v6 (fun (r16 : Int32) => (r13 = r16 → (wpl_X9_isTakingTheSame_15 k1 μ v7 v8 K56 Q n (v6 + (1 : Int32)))) ∧ (¬ r13 = r16 → (Q (0 : Int32))))))))
    refine ⟨fun c_ex => ?_, fun c_in => ?_⟩
    · exact hK56
    have c_lt : ¬ (v7) ≤ v6 := c_in
    refine f_X5_stateAfter 57 rfl μ v8 v6 (fun r10 => ?_)
    refine f_X5_isGoal 57 rfl μ r10 (fun r13 b167 => ?_)
    refine f_X2_isTaking k1 hk1 μ v8 v6 (fun r16 b168 => ?_)
    refine ⟨fun c169 => ?_, fun c170 => ?_⟩
    · exact ih (v6 + (1 : Int32)) (lt_m c_lt (by omega)) (lt_p (by assumption) c_lt)
    · exact h _ (by first | assumption | exact Or.inl rfl | exact Or.inr rfl | exact isB_or (by assumption) (by first | assumption | exact Or.inl rfl | exact Or.inr rfl))
set_option maxHeartbeats 2000000 in
theorem fl_wpl_X9_isTakingTheSame_2 (k1 : Nat) (hk1 : kd k1 = 2) (μ : TMem) {Q : Int32 → Prop} (h : ∀ r : Int32, isB r → Q r) : ∀ (n : Nat) (v2 : Int32), (((2 : Int32)).toInt + 1 - (v2).toInt).toNat < n → 0 ≤ (v2).toInt → wpl_X9_isTakingTheSame_2 k1 μ Q n v2 := by
  intro n
  induction n with
  | zero => intro v2 hm; exact absurd hm (Nat.not_lt_zero _)
  | succ n ih =>
    intro v2 hm hi
    show ((2 : Int32) < v2 → (Q (1 : Int32))) ∧ (¬ (2 : Int32) < v2 → (wp_X9_countCodes v2 (fun (r4 : Int32) => ∃ n4x, wpl_X9_isTakingTheSame_15 k1 μ r4 v2 (wpl_X9_isTakingTheSame_2 k1 μ Q n (v2 + (1 : Int32))) Q n4x (0 : Int32))))
    refine ⟨fun c_ex => ?_, fun c_in => ?_⟩
    · exact h _ (by first | assumption | exact Or.inl rfl | exact Or.inr rfl | exact isB_or (by assumption) (by first | assumption | exact Or.inl rfl | exact Or.inr rfl))
    have c_lt : ¬ ((2 : Int32)) < v2 := c_in
    refine f_X9_countCodes v2 (fun r4 => ?_)
    refine ⟨_, fl_wpl_X9_isTakingTheSame_15 k1 hk1 μ r4 v2 ?_ h _ (0 : Int32) (Nat.lt_succ_self _) (by first | decide | omega)⟩
    · exact ih (v2 + (1 : Int32)) (lt_ms c_lt (by decide) (by omega)) (lt_ps (by assumption) c_lt (by decide))
set_option maxHeartbeats 2000000 in
theorem f_X9_isTakingTheSame (k1 : Nat) (hk1 : kd k1 = 2) (μ : TMem)  {Q : Int32 → Prop} (h : ∀ r : Int32, isB r → Q r) : wp_X9_isTakingTheSame k1 μ Q := by
  show ∃ n0x, wpl_X9_isTakingTheSame_2 k1 μ Q n0x (0 : Int32)
  refine ⟨_, fl_wpl_X9_isTakingTheSame_2 k1 hk1 μ h _ (0 : Int32) (Nat.lt_succ_self _) (by first | decide | omega)⟩
set_option maxHeartbeats 2000000 in
theorem f_J6_bitCount_0f7a4 (a0 : Int32) {Q : Int32 → Prop} (h : ∀ r : Int32, Q r) : wp_J6_bitCount_0f7a4 a0 Q := by
  show Q ((((((((a0 - ((a0.toUInt32 >>> ((1 : Int32).toUInt32 &&& Int32.toUInt32 31)).toInt32 &&& (1431655765 : Int32))) &&& (858993459 : Int32)) + (((a0 - ((a0.toUInt32 >>> ((1 : Int32).toUInt32 &&& Int32.toUInt32 31)).toInt32 &&& (1431655765 : Int32))).toUInt32 >>> ((2 : Int32).toUInt32 &&& Int32.toUInt32 31)).toInt32 &&& (858993459 : Int32))) + ((((a0 - ((a0.toUInt32 >>> ((1 : Int32).toUInt32 &&& Int32.toUInt32 31)).toInt32 &&& (1431655765 : Int32))) &&& (858993459 : Int32)) + (((a0 - ((a0.toUInt32 >>> ((1 : Int32).toUInt32 &&& Int32.toUInt32 31)).toInt32 &&& (1431655765 : Int32))).toUInt32 >>> ((2 : Int32).toUInt32 &&& Int32.toUInt32 31)).toInt32 &&& (858993459 : Int32))).toUInt32 >>> ((4 : Int32).toUInt32 &&& Int32.toUInt32 31)).toInt32) &&& (252645135 : Int32)) + ((((((a0 - ((a0.toUInt32 >>> ((1 : Int32).toUInt32 &&& Int32.toUInt32 31)).toInt32 &&& (1431655765 : Int32))) &&& (858993459 : Int32)) + (((a0 - ((a0.toUInt32 >>> ((1 : Int32).toUInt32 &&& Int32.toUInt32 31)).toInt32 &&& (1431655765 : Int32))).toUInt32 >>> ((2 : Int32).toUInt32 &&& Int32.toUInt32 31)).toInt32 &&& (858993459 : Int32))) + ((((a0 - ((a0.toUInt32 >>> ((1 : Int32).toUInt32 &&& Int32.toUInt32 31)).toInt32 &&& (1431655765 : Int32))) &&& (858993459 : Int32)) + (((a0 - ((a0.toUInt32 >>> ((1 : Int32).toUInt32 &&& Int32.toUInt32 31)).toInt32 &&& (1431655765 : Int32))).toUInt32 >>> ((2 : Int32).toUInt32 &&& Int32.toUInt32 31)).toInt32 &&& (858993459 : Int32))).toUInt32 >>> ((4 : Int32).toUInt32 &&& Int32.toUInt32 31)).toInt32) &&& (252645135 : Int32)).toUInt32 >>> ((8 : Int32).toUInt32 &&& Int32.toUInt32 31)).toInt32) + (((((((a0 - ((a0.toUInt32 >>> ((1 : Int32).toUInt32 &&& Int32.toUInt32 31)).toInt32 &&& (1431655765 : Int32))) &&& (858993459 : Int32)) + (((a0 - ((a0.toUInt32 >>> ((1 : Int32).toUInt32 &&& Int32.toUInt32 31)).toInt32 &&& (1431655765 : Int32))).toUInt32 >>> ((2 : Int32).toUInt32 &&& Int32.toUInt32 31)).toInt32 &&& (858993459 : Int32))) + ((((a0 - ((a0.toUInt32 >>> ((1 : Int32).toUInt32 &&& Int32.toUInt32 31)).toInt32 &&& (1431655765 : Int32))) &&& (858993459 : Int32)) + (((a0 - ((a0.toUInt32 >>> ((1 : Int32).toUInt32 &&& Int32.toUInt32 31)).toInt32 &&& (1431655765 : Int32))).toUInt32 >>> ((2 : Int32).toUInt32 &&& Int32.toUInt32 31)).toInt32 &&& (858993459 : Int32))).toUInt32 >>> ((4 : Int32).toUInt32 &&& Int32.toUInt32 31)).toInt32) &&& (252645135 : Int32)) + ((((((a0 - ((a0.toUInt32 >>> ((1 : Int32).toUInt32 &&& Int32.toUInt32 31)).toInt32 &&& (1431655765 : Int32))) &&& (858993459 : Int32)) + (((a0 - ((a0.toUInt32 >>> ((1 : Int32).toUInt32 &&& Int32.toUInt32 31)).toInt32 &&& (1431655765 : Int32))).toUInt32 >>> ((2 : Int32).toUInt32 &&& Int32.toUInt32 31)).toInt32 &&& (858993459 : Int32))) + ((((a0 - ((a0.toUInt32 >>> ((1 : Int32).toUInt32 &&& Int32.toUInt32 31)).toInt32 &&& (1431655765 : Int32))) &&& (858993459 : Int32)) + (((a0 - ((a0.toUInt32 >>> ((1 : Int32).toUInt32 &&& Int32.toUInt32 31)).toInt32 &&& (1431655765 : Int32))).toUInt32 >>> ((2 : Int32).toUInt32 &&& Int32.toUInt32 31)).toInt32 &&& (858993459 : Int32))).toUInt32 >>> ((4 : Int32).toUInt32 &&& Int32.toUInt32 31)).toInt32) &&& (252645135 : Int32)).toUInt32 >>> ((8 : Int32).toUInt32 &&& Int32.toUInt32 31)).toInt32).toUInt32 >>> ((16 : Int32).toUInt32 &&& Int32.toUInt32 31)).toInt32) &&& (63 : Int32))
  exact h _
set_option maxHeartbeats 2000000 in
theorem fl_wpl_X2_countArrows_14 (k0 : Nat) (hk0 : kd k0 = 2) (μ : TMem) (v7 : Int32) {K37 : Int32 → Prop} (hK37 : ∀ (u0 : Int32), K37 u0) : ∀ (n : Nat) (v6 : Int32) (v8 : Int32), (((3 : Int32)).toInt - (v6).toInt).toNat < n → 0 ≤ (v6).toInt → wpl_X2_countArrows_14 k0 μ v7 K37 n v6 v8 := by
  intro n
  induction n with
  | zero => intro v6 v8 hm; exact absurd hm (Nat.not_lt_zero _)
  | succ n ih =>
    intro v6 v8 hm hi
    show ((3 : Int32) ≤ v6 → (K37 v8)) ∧ (¬ (3 : Int32) ≤ v6 → (wp_X7_at k0 μ v7 v6 (fun (r10 : Int32) => wp_J6_bitCount_0f7a4 r10 (fun (r13 : Int32) => wpl_X2_countArrows_14 k0 μ v7 K37 n (v6 + (1 : Int32)) (v8 + r13)))))
    refine ⟨fun c_ex => ?_, fun c_in => ?_⟩
    · exact hK37 v8
    have c_lt : ¬ ((3 : Int32)) ≤ v6 := c_in
    refine f_X7_at k0 (Or.inl hk0) μ v7 v6 (fun r10 => ?_)
    refine f_J6_bitCount_0f7a4 r10 (fun r13 => ?_)
    exact ih (v6 + (1 : Int32)) (v8 + r13) (lt_m c_lt (by omega)) (lt_p (by assumption) c_lt)
set_option maxHeartbeats 2000000 in
theorem fl_wpl_X2_countArrows_4 (k0 : Nat) (hk0 : kd k0 = 2) (μ : TMem) {Q : Int32 → Prop} (h : ∀ r : Int32, Q r) : ∀ (n : Nat) (v2 : Int32) (v3 : Int32), (((μ k0 1)).toInt - (v2).toInt).toNat < n → 0 ≤ (v2).toInt → wpl_X2_countArrows_4 k0 μ Q n v2 v3 := by
  intro n
  induction n with
  | zero => intro v2 v3 hm; exact absurd hm (Nat.not_lt_zero _)
  | succ n ih =>
    intro v2 v3 hm hi
    show ((μ k0 1) ≤ v2 → (Q v3)) ∧ (¬ (μ k0 1) ≤ v2 → (∃ n4x, wpl_X2_countArrows_14 k0 μ v2 (fun (u15 : Int32) => wpl_X2_countArrows_4 k0 μ Q n (v2 + (1 : Int32)) u15) n4x (0 : Int32) v3))
    refine ⟨fun c_ex => ?_, fun c_in => ?_⟩
    · exact h _
    have c_lt : ¬ ((μ k0 1)) ≤ v2 := c_in
    refine ⟨_, fl_wpl_X2_countArrows_14 k0 hk0 μ v2 ?_ _ (0 : Int32) v3 (Nat.lt_succ_self _) (by first | decide | omega)⟩
    · intro u15
      exact ih (v2 + (1 : Int32)) u15 (lt_m c_lt (by omega)) (lt_p (by assumption) c_lt)
set_option maxHeartbeats 2000000 in
theorem f_X2_countArrows (k0 : Nat) (hk0 : kd k0 = 2) (μ : TMem)  {Q : Int32 → Prop} (h : ∀ r : Int32, Q r) : wp_X2_countArrows k0 μ Q := by
  show ∃ n0x, wpl_X2_countArrows_4 k0 μ Q n0x (0 : Int32) (0 : Int32)
  refine ⟨_, fl_wpl_X2_countArrows_4 k0 hk0 μ h _ (0 : Int32) (0 : Int32) (Nat.lt_succ_self _) (by first | decide | omega)⟩
set_option maxHeartbeats 2000000 in
theorem fl_wpl_X2_isPlain_12 (k0 : Nat) (hk0 : kd k0 = 2) (μ : TMem) (v6 : Int32) {K38 : Prop} {Q : Int32 → Prop} (hK38 : K38) (h : ∀ r : Int32, isB r → Q r) : ∀ (n : Nat) (v5 : Int32), (((3 : Int32)).toInt - (v5).toInt).toNat < n → 0 ≤ (v5).toInt → wpl_X2_isPlain_12 k0 μ v6 K38 Q n v5 := by
  intro n
  induction n with
  | zero => intro v5 hm; exact absurd hm (Nat.not_lt_zero _)
  | succ n ih =>
    intro v5 hm hi
    show ((3 : Int32) ≤ v5 → (K38)) ∧ (¬ (3 : Int32) ≤ v5 → (wp_X7_at k0 μ v6 v5 (fun (r8 : Int32) => wp_J6_bitCount_0f7a4 r8 (fun (r11 : Int32) => (r11 = (1 : Int32) → (wpl_X2_isPlain_12 k0 μ v6 K38 Q n (v5 + (1 : Int32)))) ∧ (¬ r11 = (1 : Int32) → (Q (0 : Int32)))))))
    refine ⟨fun c_ex => ?_, fun c_in => ?_⟩
    · exact hK38
    have c_lt : ¬ ((3 : Int32)) ≤ v5 := c_in
    refine f_X7_at k0 (Or.inl hk0) μ v6 v5 (fun r8 => ?_)
    refine f_J6_bitCount_0f7a4 r8 (fun r11 => ?_)
    refine ⟨fun c171 => ?_, fun c172 => ?_⟩
    · exact ih (v5 + (1 : Int32)) (lt_m c_lt (by omega)) (lt_p (by assumption) c_lt)
    · exact h _ (by first | assumption | exact Or.inl rfl | exact Or.inr rfl | exact isB_or (by assumption) (by first | assumption | exact Or.inl rfl | exact Or.inr rfl))
set_option maxHeartbeats 2000000 in
theorem fl_wpl_X2_isPlain_2 (k0 : Nat) (hk0 : kd k0 = 2) (μ : TMem) {K44 : Prop} {Q : Int32 → Prop} (hK44 : K44) (h : ∀ r : Int32, isB r → Q r) : ∀ (n : Nat) (v2 : Int32), (((μ k0 1)).toInt - (v2).toInt).toNat < n → 0 ≤ (v2).toInt → wpl_X2_isPlain_2 k0 μ K44 Q n v2 := by
  intro n
  induction n with
  | zero => intro v2 hm; exact absurd hm (Nat.not_lt_zero _)
  | succ n ih =>
    intro v2 hm hi
    show ((μ k0 1) ≤ v2 → (K44)) ∧ (¬ (μ k0 1) ≤ v2 → (∃ n3x, wpl_X2_isPlain_12 k0 μ v2 (wpl_X2_isPlain_2 k0 μ K44 Q n (v2 + (1 : Int32))) Q n3x (0 : Int32)))
    refine ⟨fun c_ex => ?_, fun c_in => ?_⟩
    · exact hK44
    have c_lt : ¬ ((μ k0 1)) ≤ v2 := c_in
    refine ⟨_, fl_wpl_X2_isPlain_12 k0 hk0 μ v2 ?_ h _ (0 : Int32) (Nat.lt_succ_self _) (by first | decide | omega)⟩
    · exact ih (v2 + (1 : Int32)) (lt_m c_lt (by omega)) (lt_p (by assumption) c_lt)
set_option maxHeartbeats 2000000 in
theorem f_X2_isPlain (k0 : Nat) (hk0 : kd k0 = 2) (μ : TMem)  {Q : Int32 → Prop} (h : ∀ r : Int32, isB r → Q r) : wp_X2_isPlain k0 μ Q := by
  show ∃ n0x, wpl_X2_isPlain_2 k0 μ (wp_J6_bitCount_0f7a4 (μ k0 3) (fun (r15 : Int32) => (¬ r15 = (1 : Int32) → (Q (0 : Int32))) ∧ (r15 = (1 : Int32) → (Q (1 : Int32))))) Q n0x (0 : Int32)
  refine ⟨_, fl_wpl_X2_isPlain_2 k0 hk0 μ ?_ h _ (0 : Int32) (Nat.lt_succ_self _) (by first | decide | omega)⟩
  · refine f_J6_bitCount_0f7a4 (μ k0 3) (fun r15 => ?_)
    refine ⟨fun c173 => ?_, fun c174 => ?_⟩
    · exact h _ (by first | assumption | exact Or.inl rfl | exact Or.inr rfl | exact isB_or (by assumption) (by first | assumption | exact Or.inl rfl | exact Or.inr rfl))
    · exact h _ (by first | assumption | exact Or.inl rfl | exact Or.inr rfl | exact isB_or (by assumption) (by first | assumption | exact Or.inl rfl | exact Or.inr rfl))
set_option maxHeartbeats 2000000 in
theorem fl_wpl_X9_addMachine_83 (k1 : Nat) (hk1 : kd k1 = 2) (μ : TMem) (v15 : Int32) {K111 : Int64 → Prop} (hK111 : ∀ (u0 : Int64), K111 u0) : ∀ (n : Nat) (v14 : Int32) (v16 : Int64), (((3 : Int32)).toInt - (v14).toInt).toNat < n → 0 ≤ (v14).toInt → wpl_X9_addMachine_83 k1 μ v15 K111 n v14 v16 := by
  intro n
  induction n with
  | zero => intro v14 v16 hm; exact absurd hm (Nat.not_lt_zero _)
  | succ n ih =>
    intro v14 v16 hm hi
    show ((3 : Int32) ≤ v14 → (K111 v16)) ∧ (¬ (3 : Int32) ≤ v14 → (wp_X7_at k1 μ v15 v14 (fun (r18 : Int32) => wpl_X9_addMachine_83 k1 μ v15 K111 n (v14 + (1 : Int32)) ((v16 * (31 : Int64)) + r18.toInt64))))
    refine ⟨fun c_ex => ?_, fun c_in => ?_⟩
    · exact hK111 v16
    have c_lt : ¬ ((3 : Int32)) ≤ v14 := c_in
    refine f_X7_at k1 (Or.inl hk1) μ v15 v14 (fun r18 => ?_)
    exact ih (v14 + (1 : Int32)) ((v16 * (31 : Int64)) + r18.toInt64) (lt_m c_lt (by omega)) (lt_p (by assumption) c_lt)
set_option maxHeartbeats 2000000 in
theorem fl_wpl_X9_addMachine_71 (k1 : Nat) (hk1 : kd k1 = 2) (μ : TMem) {Q : Int64 → Prop} (h : ∀ r : Int64, Q r) : ∀ (n : Nat) (v10 : Int32) (v11 : Int64), (((μ k1 1)).toInt - (v10).toInt).toNat < n → 0 ≤ (v10).toInt → wpl_X9_addMachine_71 k1 μ Q n v10 v11 := by
  intro n
  induction n with
  | zero => intro v10 v11 hm; exact absurd hm (Nat.not_lt_zero _)
  | succ n ih =>
    intro v10 v11 hm hi
    show ((μ k1 1) ≤ v10 → (Q v11)) ∧ (¬ (μ k1 1) ≤ v10 → (∃ n12x, wpl_X9_addMachine_83 k1 μ v10 (fun (u22 : Int64) => wpl_X9_addMachine_71 k1 μ Q n (v10 + (1 : Int32)) u22) n12x (0 : Int32) v11))
    refine ⟨fun c_ex => ?_, fun c_in => ?_⟩
    · exact h _
    have c_lt : ¬ ((μ k1 1)) ≤ v10 := c_in
    refine ⟨_, fl_wpl_X9_addMachine_83 k1 hk1 μ v10 ?_ _ (0 : Int32) v11 (Nat.lt_succ_self _) (by first | decide | omega)⟩
    · intro u22
      exact ih (v10 + (1 : Int32)) u22 (lt_m c_lt (by omega)) (lt_p (by assumption) c_lt)
set_option maxHeartbeats 2000000 in
theorem f_X9_addMachine (k1 : Nat) (hk1 : kd k1 = 2) (μ : TMem) (a0 : Int64) {Q : Int64 → Prop} (h : ∀ r : Int64, Q r) : wp_X9_addMachine k1 μ a0 Q := by
  show wp_X2_countArrows k1 μ (fun (r1 : Int32) => wp_X2_isPlain k1 μ (fun (r4 : Int32) => ∀ J7 : Int32 → Prop, (∀ (j8 : Int32), (∃ n8x, wpl_X9_addMachine_71 k1 μ Q n8x (0 : Int32) ((((((((((a0 * (31 : Int64)) + (μ k1 1).toInt64) * (31 : Int64)) + r1.toInt64) * (31 : Int64)) + (μ k1 3).toInt64) * (31 : Int64)) + (μ k1 2).toInt64) * (31 : Int64)) + j8.toInt64)) → J7 j8) → ((r4 = 0 → (J7 (0 : Int32))) ∧ (¬ r4 = 0 → (J7 (1 : Int32))))))
  refine f_X2_countArrows k1 hk1 μ (fun r1 => ?_)
  refine f_X2_isPlain k1 hk1 μ (fun r4 b175 => ?_)
  intro J7 hJ7
  refine ⟨fun c176 => ?_, fun c177 => ?_⟩
  · refine hJ7 (0 : Int32) ?_
    refine ⟨_, fl_wpl_X9_addMachine_71 k1 hk1 μ h _ (0 : Int32) ((((((((((a0 * (31 : Int64)) + (μ k1 1).toInt64) * (31 : Int64)) + r1.toInt64) * (31 : Int64)) + (μ k1 3).toInt64) * (31 : Int64)) + (μ k1 2).toInt64) * (31 : Int64)) + (0 : Int32).toInt64) (Nat.lt_succ_self _) (by first | decide | omega)⟩
  · refine hJ7 (1 : Int32) ?_
    refine ⟨_, fl_wpl_X9_addMachine_71 k1 hk1 μ h _ (0 : Int32) ((((((((((a0 * (31 : Int64)) + (μ k1 1).toInt64) * (31 : Int64)) + r1.toInt64) * (31 : Int64)) + (μ k1 3).toInt64) * (31 : Int64)) + (μ k1 2).toInt64) * (31 : Int64)) + (1 : Int32).toInt64) (Nat.lt_succ_self _) (by first | decide | omega)⟩
set_option maxHeartbeats 2000000 in
theorem f_X0_restart (μ : TMem) (a1 : Int32) {Q : TMem → Prop} (h : ∀ μ9 : TMem, Fr 0 μ μ9 → Q μ9) : wp_X0_restart μ a1 Q := by
  show Q (tms μ 14 0 a1)
  exact h _ (Fr.st (Fr.rf) (by rw [show kd 14 = 0 from rfl] <;> rfl) (Or.inl (ne43 (K := 0) rfl (by decide))))
set_option maxHeartbeats 2000000 in
theorem f_X0_draw (μ : TMem)  {Q : Int32 → TMem → Prop} (h : ∀ (r : Int32) (μ9 : TMem), Fr 0 μ μ9 → Q r μ9) : wp_X0_draw μ Q := by
  show Q (((tms μ 14 0 ((((μ 14 0) * (25173 : Int32)) + (13849 : Int32)) - (((μ 14 0) * (25173 : Int32)) + (13849 : Int32)) / (65536 : Int32) * (65536 : Int32))) 14 0) / (64 : Int32)) (tms μ 14 0 ((((μ 14 0) * (25173 : Int32)) + (13849 : Int32)) - (((μ 14 0) * (25173 : Int32)) + (13849 : Int32)) / (65536 : Int32) * (65536 : Int32)))
  exact h _ _ (Fr.st (Fr.rf) (by rw [show kd 14 = 0 from rfl] <;> rfl) (Or.inl (ne43 (K := 0) rfl (by decide))))
set_option maxHeartbeats 2000000 in
theorem fl_wpl_X1_ofOtherGoalness_4 (k0 : Nat) (hk0 : kd k0 = 5) (μ : TMem) (v4 : Int32) {Q : Int32 → Prop} (h : ∀ r : Int32, Q r) : ∀ (n : Nat) (v2 : Int32) (v3 : Int32), (((μ k0 1)).toInt - (v2).toInt).toNat < n → 0 ≤ (v2).toInt → wpl_X1_ofOtherGoalness_4 k0 μ v4 Q n v2 v3 := by
  intro n
  induction n with
  | zero => intro v2 v3 hm; exact absurd hm (Nat.not_lt_zero _)
  | succ n ih =>
    intro v2 v3 hm hi
    show ((μ k0 1) ≤ v2 → (Q v3)) ∧ (¬ (μ k0 1) ≤ v2 → (wp_X5_isGoal k0 μ v2 (fun (r6 : Int32) => wp_X5_isGoal k0 μ v4 (fun (r9 : Int32) => (r6 = r9 → (wpl_X1_ofOtherGoalness_4 k0 μ v4 Q n (v2 + (1 : Int32)) v3)) ∧ (¬ r6 = r9 → (wpl_X1_ofOtherGoalness_4 k0 μ v4 Q n (v2 + (1 : Int32)) (v3 ||| ((1 : Int32) <<< (v2 &&& 31)))))))))
    refine ⟨fun c_ex => ?_, fun c_in => ?_⟩
    · exact h _
    have c_lt : ¬ ((μ k0 1)) ≤ v2 := c_in
    refine f_X5_isGoal k0 hk0 μ v2 (fun r6 b178 => ?_)
    refine f_X5_isGoal k0 hk0 μ v4 (fun r9 b179 => ?_)
    refine ⟨fun c180 => ?_, fun c181 => ?_⟩
    · exact ih (v2 + (1 : Int32)) v3 (lt_m c_lt (by omega)) (lt_p (by assumption) c_lt)
    · exact ih (v2 + (1 : Int32)) (v3 ||| ((1 : Int32) <<< (v2 &&& 31))) (lt_m c_lt (by omega)) (lt_p (by assumption) c_lt)
set_option maxHeartbeats 2000000 in
theorem f_X1_ofOtherGoalness (k0 : Nat) (hk0 : kd k0 = 5) (μ : TMem) (a1 : Int32) {Q : Int32 → Prop} (h : ∀ r : Int32, Q r) : wp_X1_ofOtherGoalness k0 μ a1 Q := by
  show ∃ n0x, wpl_X1_ofOtherGoalness_4 k0 μ a1 Q n0x (0 : Int32) (0 : Int32)
  refine ⟨_, fl_wpl_X1_ofOtherGoalness_4 k0 hk0 μ a1 h _ (0 : Int32) (0 : Int32) (Nat.lt_succ_self _) (by first | decide | omega)⟩
set_option maxHeartbeats 2000000 in
theorem fl_wpl_X1_isLeadingToUnlike_3 (k1 : Nat) (hk1 : kd k1 = 5) (μ : TMem) (v3 : Int32) (v4 : Int32) {Q : Int32 → Prop} (h : ∀ r : Int32, isB r → Q r) : ∀ (n : Nat) (v2 : Int32), (((3 : Int32)).toInt - (v2).toInt).toNat < n → 0 ≤ (v2).toInt → wpl_X1_isLeadingToUnlike_3 k1 μ v3 v4 Q n v2 := by
  intro n
  induction n with
  | zero => intro v2 hm; exact absurd hm (Nat.not_lt_zero _)
  | succ n ih =>
    intro v2 hm hi
    show ((3 : Int32) ≤ v2 → (Q (0 : Int32))) ∧ (¬ (3 : Int32) ≤ v2 → (wp_X7_at k1 μ v3 v2 (fun (r6 : Int32) => wp_X6_at 27 μ r6 (fun (r9 : Int32) => wp_X7_at k1 μ v4 v2 (fun (r12 : Int32) => wp_X9_isIn r9 r12 (fun (r15 : Int32) => (r15 = 0 → (wpl_X1_isLeadingToUnlike_3 k1 μ v3 v4 Q n (v2 + (1 : Int32)))) ∧ (¬ r15 = 0 → (Q (1 : Int32)))))))))
    refine ⟨fun c_ex => ?_, fun c_in => ?_⟩
    · exact h _ (by first | assumption | exact Or.inl rfl | exact Or.inr rfl | exact isB_or (by assumption) (by first | assumption | exact Or.inl rfl | exact Or.inr rfl))
    have c_lt : ¬ ((3 : Int32)) ≤ v2 := c_in
    refine f_X7_at k1 (Or.inr hk1) μ v3 v2 (fun r6 => ?_)
    refine f_X6_at 27 rfl μ r6 (fun r9 => ?_)
    refine f_X7_at k1 (Or.inr hk1) μ v4 v2 (fun r12 => ?_)
    refine f_X9_isIn r9 r12 (fun r15 b182 => ?_)
    refine ⟨fun c183 => ?_, fun c184 => ?_⟩
    · exact ih (v2 + (1 : Int32)) (lt_m c_lt (by omega)) (lt_p (by assumption) c_lt)
    · exact h _ (by first | assumption | exact Or.inl rfl | exact Or.inr rfl | exact isB_or (by assumption) (by first | assumption | exact Or.inl rfl | exact Or.inr rfl))
set_option maxHeartbeats 2000000 in
theorem f_X1_isLeadingToUnlike (k1 : Nat) (hk1 : kd k1 = 5) (μ : TMem) (a2 : Int32) (a3 : Int32) {Q : Int32 → Prop} (h : ∀ r : Int32, isB r → Q r) : wp_X1_isLeadingToUnlike k1 μ a2 a3 Q := by
  show ∃ n0x, wpl_X1_isLeadingToUnlike_3 k1 μ a2 a3 Q n0x (0 : Int32)
  refine ⟨_, fl_wpl_X1_isLeadingToUnlike_3 k1 hk1 μ a2 a3 h _ (0 : Int32) (Nat.lt_succ_self _) (by first | decide | omega)⟩
set_option maxHeartbeats 2000000 in
theorem fl_wpl_X1_tellFurther_15 (μ0 : TMem) (k1 : Nat) (hk1 : kd k1 = 5) (v9 : Int32) {K99 : Int32 → TMem → Prop} (hK99 : ∀ (u0 : Int32) (u1 : TMem), isB u0 → Fr 0 μ0 u1 → K99 u0 u1) : ∀ (n : Nat) (v8 : Int32) (v10 : Int32) (μ11 : TMem), ((v9).toInt - (v8).toInt).toNat < n → 0 ≤ (v8).toInt → isB v10 → Fr 0 μ0 μ11 → wpl_X1_tellFurther_15 k1 v9 K99 n v8 v10 μ11 := by
  intro n
  induction n with
  | zero => intro v8 v10 μ11 hm; exact absurd hm (Nat.not_lt_zero _)
  | succ n ih =>
    intro v8 v10 μ11 hm hi bv10 hF
    show (v9 ≤ v8 → (K99 v10 μ11)) ∧ (¬ v9 ≤ v8 → (wp_X6_at 27 μ11 v9 (fun (r13 : Int32) => wp_X9_isIn r13 v8 (fun (r16 : Int32) => (¬ r16 = 0 → (wpl_X1_tellFurther_15 k1 v9 K99 n (v8 + (1 : Int32)) v10 μ11)) ∧ (r16 = 0 → (wp_X1_isLeadingToUnlike k1 μ11 v9 v8 (fun (r18 : Int32) => (r18 = 0 → (wpl_X1_tellFurther_15 k1 v9 K99 n (v8 + (1 : Int32)) v10 μ11)) ∧ (¬ r18 = 0 → (wp_X6_at 27 μ11 v9 (fun (r22 : Int32) => wp_X6_put 27 μ11 v9 (r22 ||| ((1 : Int32) <<< (v8 &&& 31))) (fun (μ25 : TMem) => wp_X6_at 27 μ25 v8 (fun (r26 : Int32) => wp_X6_put 27 μ25 v8 (r26 ||| ((1 : Int32) <<< (v9 &&& 31))) (fun (μ29 : TMem) => wpl_X1_tellFurther_15 k1 v9 K99 n (v8 + (1 : Int32)) (1 : Int32) μ29)))))))))))))
    refine ⟨fun c_ex => ?_, fun c_in => ?_⟩
    · exact hK99 v10 μ11 (by first | assumption | exact Or.inl rfl | exact Or.inr rfl | exact isB_or (by assumption) (by first | assumption | exact Or.inl rfl | exact Or.inr rfl)) hF
    have c_lt : ¬ (v9) ≤ v8 := c_in
    refine f_X6_at 27 rfl μ11 v9 (fun r13 => ?_)
    refine f_X9_isIn r13 v8 (fun r16 b185 => ?_)
    refine ⟨fun c186 => ?_, fun c187 => ?_⟩
    · exact ih (v8 + (1 : Int32)) v10 μ11 (lt_m c_lt (by omega)) (lt_p (by assumption) c_lt) (by first | assumption | exact Or.inl rfl | exact Or.inr rfl | exact isB_or (by assumption) (by first | assumption | exact Or.inl rfl | exact Or.inr rfl)) hF
    · refine f_X1_isLeadingToUnlike k1 hk1 μ11 v9 v8 (fun r18 b188 => ?_)
      refine ⟨fun c189 => ?_, fun c190 => ?_⟩
      · exact ih (v8 + (1 : Int32)) v10 μ11 (lt_m c_lt (by omega)) (lt_p (by assumption) c_lt) (by first | assumption | exact Or.inl rfl | exact Or.inr rfl | exact isB_or (by assumption) (by first | assumption | exact Or.inl rfl | exact Or.inr rfl)) hF
      · refine f_X6_at 27 rfl μ11 v9 (fun r22 => ?_)
        refine f_X6_put 27 rfl μ11 v9 (r22 ||| ((1 : Int32) <<< (v8 &&& 31))) (Or.inl (by decide)) (fun μ25 hf191 => ?_)
        refine f_X6_at 27 rfl μ25 v8 (fun r26 => ?_)
        refine f_X6_put 27 rfl μ25 v8 (r26 ||| ((1 : Int32) <<< (v9 &&& 31))) (Or.inl (by decide)) (fun μ29 hf192 => ?_)
        exact ih (v8 + (1 : Int32)) (1 : Int32) μ29 (lt_m c_lt (by omega)) (lt_p (by assumption) c_lt) (by first | assumption | exact Or.inl rfl | exact Or.inr rfl | exact isB_or (by assumption) (by first | assumption | exact Or.inl rfl | exact Or.inr rfl)) (Fr.trans (Fr.trans hF (Fr.up (by decide) hf191)) (Fr.up (by decide) hf192))
set_option maxHeartbeats 2000000 in
theorem fl_wpl_X1_tellFurther_4 (μ0 : TMem) (k1 : Nat) (hk1 : kd k1 = 5) {Q : Int32 → TMem → Prop} (h : ∀ (r : Int32) (μ9 : TMem), isB r → Fr 0 μ0 μ9 → Q r μ9) : ∀ (n : Nat) (v2 : Int32) (v3 : Int32) (μ4 : TMem), (((μ0 k1 1)).toInt - (v2).toInt).toNat < n → 0 ≤ (v2).toInt → isB v3 → Fr 0 μ0 μ4 → wpl_X1_tellFurther_4 k1 Q n v2 v3 μ4 := by
  intro n
  induction n with
  | zero => intro v2 v3 μ4 hm; exact absurd hm (Nat.not_lt_zero _)
  | succ n ih =>
    intro v2 v3 μ4 hm hi bv3 hF
    show ((μ4 k1 1) ≤ v2 → (isB v3 ∧ Q v3 μ4)) ∧ (¬ (μ4 k1 1) ≤ v2 → (∃ n6x, wpl_X1_tellFurther_15 k1 v2 (fun (u31 : Int32) (μ32 : TMem) => wpl_X1_tellFurther_4 k1 Q n (v2 + (1 : Int32)) u31 μ32) n6x (0 : Int32) v3 μ4))
    refine ⟨fun c_ex => ?_, fun c_in => ?_⟩
    · refine ⟨(by first | assumption | exact Or.inl rfl | exact Or.inr rfl | exact isB_or (by assumption) (by first | assumption | exact Or.inl rfl | exact Or.inr rfl)), ?_⟩
      exact h _ _ (by first | assumption | exact Or.inl rfl | exact Or.inr rfl | exact isB_or (by assumption) (by first | assumption | exact Or.inl rfl | exact Or.inr rfl)) hF
    have e_k1_1 : μ4 k1 1 = μ0 k1 1 := hF.1 k1 1 (by rw [show kd k1 = 5 from hk1] <;> rfl)
    have c_lt : ¬ ((μ0 k1 1)) ≤ v2 := by
      rw [e_k1_1] at c_in
      exact c_in
    refine ⟨_, fl_wpl_X1_tellFurther_15 μ4 k1 hk1 v2 ?_ _ (0 : Int32) v3 μ4 (Nat.lt_succ_self _) (by first | decide | omega) (by first | assumption | exact Or.inl rfl | exact Or.inr rfl | exact isB_or (by assumption) (by first | assumption | exact Or.inl rfl | exact Or.inr rfl)) Fr.rf⟩
    · intro u31 μ32 b193 hf194
      exact ih (v2 + (1 : Int32)) u31 μ32 (lt_m c_lt (by omega)) (lt_p (by assumption) c_lt) (by first | assumption | exact Or.inl rfl | exact Or.inr rfl | exact isB_or (by assumption) (by first | assumption | exact Or.inl rfl | exact Or.inr rfl)) (Fr.trans hF (Fr.up (by decide) hf194))
set_option maxHeartbeats 2000000 in
theorem f_X1_tellFurther (k1 : Nat) (hk1 : kd k1 = 5) (μ : TMem)  {Q : Int32 → TMem → Prop} (h : ∀ (r : Int32) (μ9 : TMem), isB r → Fr 0 μ μ9 → Q r μ9) : wp_X1_tellFurther k1 μ Q := by
  show ∃ n0x, wpl_X1_tellFurther_4 k1 Q n0x (0 : Int32) (0 : Int32) μ
  refine ⟨_, fl_wpl_X1_tellFurther_4 μ k1 hk1 (fun r9 μ9 b9 f9 => h r9 μ9 b9 (Fr.trans (Fr.rf) (Fr.up (by decide) f9))) _ (0 : Int32) (0 : Int32) μ (Nat.lt_succ_self _) (by first | decide | omega) (by first | assumption | exact Or.inl rfl | exact Or.inr rfl | exact isB_or (by assumption) (by first | assumption | exact Or.inl rfl | exact Or.inr rfl)) Fr.rf⟩
set_option maxHeartbeats 2000000 in
theorem fl_wpl_X1_firstNotUnlike_2 (μ : TMem) (v3 : Int32) {Q : Int32 → Prop} (h : ∀ r : Int32, Q r) : ∀ (n : Nat) (v2 : Int32), ((v3).toInt - (v2).toInt).toNat < n → 0 ≤ (v2).toInt → wpl_X1_firstNotUnlike_2 μ v3 Q n v2 := by
  intro n
  induction n with
  | zero => intro v2 hm; exact absurd hm (Nat.not_lt_zero _)
  | succ n ih =>
    intro v2 hm hi
    show (v3 ≤ v2 → (Q v3)) ∧ (¬ v3 ≤ v2 → (wp_X6_at 27 μ v3 (fun (r5 : Int32) => wp_X9_isIn r5 v2 (fun (r8 : Int32) => (¬ r8 = 0 → (wpl_X1_firstNotUnlike_2 μ v3 Q n (v2 + (1 : Int32)))) ∧ (r8 = 0 → (Q v2))))))
    refine ⟨fun c_ex => ?_, fun c_in => ?_⟩
    · exact h _
    have c_lt : ¬ (v3) ≤ v2 := c_in
    refine f_X6_at 27 rfl μ v3 (fun r5 => ?_)
    refine f_X9_isIn r5 v2 (fun r8 b195 => ?_)
    refine ⟨fun c196 => ?_, fun c197 => ?_⟩
    · exact ih (v2 + (1 : Int32)) (lt_m c_lt (by omega)) (lt_p (by assumption) c_lt)
    · exact h _
set_option maxHeartbeats 2000000 in
theorem f_X1_firstNotUnlike (μ : TMem) (a1 : Int32) {Q : Int32 → Prop} (h : ∀ r : Int32, Q r) : wp_X1_firstNotUnlike μ a1 Q := by
  show ∃ n0x, wpl_X1_firstNotUnlike_2 μ a1 Q n0x (0 : Int32)
  refine ⟨_, fl_wpl_X1_firstNotUnlike_2 μ a1 h _ (0 : Int32) (Nat.lt_succ_self _) (by first | decide | omega)⟩
set_option maxHeartbeats 2000000 in
theorem fl_wpl_X1_findByPairs_2 (μ0 : TMem) (k1 : Nat) (hk1 : kd k1 = 5) {K29 : TMem → Prop} (hK29 : ∀ (u0 : TMem), Fr 0 μ0 u0 → K29 u0) : ∀ (n : Nat) (v2 : Int32) (μ3 : TMem), (((μ0 k1 1)).toInt - (v2).toInt).toNat < n → 0 ≤ (v2).toInt → Fr 0 μ0 μ3 → wpl_X1_findByPairs_2 k1 K29 n v2 μ3 := by
  intro n
  induction n with
  | zero => intro v2 μ3 hm; exact absurd hm (Nat.not_lt_zero _)
  | succ n ih =>
    intro v2 μ3 hm hi hF
    show ((μ3 k1 1) ≤ v2 → (K29 μ3)) ∧ (¬ (μ3 k1 1) ≤ v2 → (wp_X1_ofOtherGoalness k1 μ3 v2 (fun (r5 : Int32) => wp_X6_put 27 μ3 v2 r5 (fun (μ8 : TMem) => wpl_X1_findByPairs_2 k1 K29 n (v2 + (1 : Int32)) μ8))))
    refine ⟨fun c_ex => ?_, fun c_in => ?_⟩
    · exact hK29 μ3 hF
    have e_k1_1 : μ3 k1 1 = μ0 k1 1 := hF.1 k1 1 (by rw [show kd k1 = 5 from hk1] <;> rfl)
    have c_lt : ¬ ((μ0 k1 1)) ≤ v2 := by
      rw [e_k1_1] at c_in
      exact c_in
    refine f_X1_ofOtherGoalness k1 hk1 μ3 v2 (fun r5 => ?_)
    refine f_X6_put 27 rfl μ3 v2 r5 (Or.inl (by decide)) (fun μ8 hf198 => ?_)
    exact ih (v2 + (1 : Int32)) μ8 (lt_m c_lt (by omega)) (lt_p (by assumption) c_lt) (Fr.trans hF (Fr.up (by decide) hf198))
set_option maxHeartbeats 2000000 in
theorem fl_wpl_X1_findByPairs_33 (μ0 : TMem) (k1 : Nat) (hk1 : kd k1 = 5) {K56 : TMem → Prop} (hK56 : ∀ (u0 : TMem), Fr 0 μ0 u0 → K56 u0) : ∀ (n : Nat) (v12 : Int32) (v13 : Int32) (μ14 : TMem), (((1024 : Int32)).toInt - (v12).toInt).toNat < n → 0 ≤ (v12).toInt → Fr 0 μ0 μ14 → wpl_X1_findByPairs_33 k1 K56 n v12 v13 μ14 := by
  intro n
  induction n with
  | zero => intro v12 v13 μ14 hm; exact absurd hm (Nat.not_lt_zero _)
  | succ n ih =>
    intro v12 v13 μ14 hm hi hF
    show ((1024 : Int32) ≤ v12 → (K56 μ14)) ∧ (¬ (1024 : Int32) ≤ v12 → ((v13 = 0 → (K56 μ14)) ∧ (¬ v13 = 0 → (wp_X1_tellFurther k1 μ14 (fun (r18 : Int32) (μ17 : TMem) => wpl_X1_findByPairs_33 k1 K56 n (v12 + (1 : Int32)) r18 μ17)))))
    refine ⟨fun c_ex => ?_, fun c_in => ?_⟩
    · exact hK56 μ14 hF
    have c_lt : ¬ ((1024 : Int32)) ≤ v12 := c_in
    refine ⟨fun c199 => ?_, fun c200 => ?_⟩
    · exact hK56 μ14 hF
    · refine f_X1_tellFurther k1 hk1 μ14 (fun r18 μ17 b201 hf202 => ?_)
      exact ih (v12 + (1 : Int32)) r18 μ17 (lt_m c_lt (by omega)) (lt_p (by assumption) c_lt) (Fr.trans hF (Fr.up (by decide) hf202))
set_option maxHeartbeats 2000000 in
theorem fl_wpl_X1_findByPairs_58 (μ0 : TMem) (k1 : Nat) (hk1 : kd k1 = 5) {Q : TMem → Prop} (h : ∀ μ9 : TMem, Fr 0 μ0 μ9 → Q μ9) : ∀ (n : Nat) (v22 : Int32) (μ23 : TMem), (((μ0 k1 1)).toInt - (v22).toInt).toNat < n → 0 ≤ (v22).toInt → Fr 0 μ0 μ23 → wpl_X1_findByPairs_58 k1 Q n v22 μ23 := by
  intro n
  induction n with
  | zero => intro v22 μ23 hm; exact absurd hm (Nat.not_lt_zero _)
  | succ n ih =>
    intro v22 μ23 hm hi hF
    show ((μ23 k1 1) ≤ v22 → (Q μ23)) ∧ (¬ (μ23 k1 1) ≤ v22 → (wp_X1_firstNotUnlike μ23 v22 (fun (r25 : Int32) => wp_X6_put 23 μ23 v22 r25 (fun (μ28 : TMem) => wpl_X1_findByPairs_58 k1 Q n (v22 + (1 : Int32)) μ28))))
    refine ⟨fun c_ex => ?_, fun c_in => ?_⟩
    · exact h _ hF
    have e_k1_1 : μ23 k1 1 = μ0 k1 1 := hF.1 k1 1 (by rw [show kd k1 = 5 from hk1] <;> rfl)
    have c_lt : ¬ ((μ0 k1 1)) ≤ v22 := by
      rw [e_k1_1] at c_in
      exact c_in
    refine f_X1_firstNotUnlike μ23 v22 (fun r25 => ?_)
    refine f_X6_put 23 rfl μ23 v22 r25 (Or.inl (by decide)) (fun μ28 hf203 => ?_)
    exact ih (v22 + (1 : Int32)) μ28 (lt_m c_lt (by omega)) (lt_p (by assumption) c_lt) (Fr.trans hF (Fr.up (by decide) hf203))
set_option maxHeartbeats 2000000 in
theorem f_X1_findByPairs (k1 : Nat) (hk1 : kd k1 = 5) (μ : TMem)  {Q : TMem → Prop} (h : ∀ μ9 : TMem, Fr 0 μ μ9 → Q μ9) : wp_X1_findByPairs k1 μ Q := by
  show ∃ n0x, wpl_X1_findByPairs_2 k1 (fun (μ10 : TMem) => ∃ n10x, wpl_X1_findByPairs_33 k1 (fun (μ20 : TMem) => ∃ n20x, wpl_X1_findByPairs_58 k1 Q n20x (0 : Int32) μ20) n10x (0 : Int32) (1 : Int32) μ10) n0x (0 : Int32) μ
  refine ⟨_, fl_wpl_X1_findByPairs_2 μ k1 hk1 ?_ _ (0 : Int32) μ (Nat.lt_succ_self _) (by first | decide | omega) Fr.rf⟩
  · intro μ10 hf204
    refine ⟨_, fl_wpl_X1_findByPairs_33 μ10 k1 hk1 ?_ _ (0 : Int32) (1 : Int32) μ10 (Nat.lt_succ_self _) (by first | decide | omega) Fr.rf⟩
    · intro μ20 hf205
      refine ⟨_, fl_wpl_X1_findByPairs_58 μ20 k1 hk1 (fun μ9 f9 => h μ9 (Fr.trans (Fr.trans (Fr.trans (Fr.rf) (Fr.up (by decide) hf204)) (Fr.up (by decide) hf205)) (Fr.up (by decide) f9))) _ (0 : Int32) μ20 (Nat.lt_succ_self _) (by first | decide | omega) Fr.rf⟩
set_option maxHeartbeats 2000000 in
theorem fl_wpl_X2_addState_2 (μ0 : TMem) (k0 : Nat) (hk0 : kd k0 = 2) {Q : TMem → Prop} (h : ∀ μ9 : TMem, Fr 2 μ0 μ9 → Q μ9) : ∀ (n : Nat) (v2 : Int32) (μ3 : TMem), (((3 : Int32)).toInt - (v2).toInt).toNat < n → 0 ≤ (v2).toInt → Fr 2 μ0 μ3 → wpl_X2_addState_2 k0 Q n v2 μ3 := by
  intro n
  induction n with
  | zero => intro v2 μ3 hm; exact absurd hm (Nat.not_lt_zero _)
  | succ n ih =>
    intro v2 μ3 hm hi hF
    show ((3 : Int32) ≤ v2 → (Q (tms μ3 k0 1 ((μ3 k0 1) + (1 : Int32))))) ∧ (¬ (3 : Int32) ≤ v2 → (wp_X7_put k0 μ3 (μ3 k0 1) v2 (0 : Int32) (fun (μ5 : TMem) => wpl_X2_addState_2 k0 Q n (v2 + (1 : Int32)) μ5)))
    refine ⟨fun c_ex => ?_, fun c_in => ?_⟩
    · exact h _ (Fr.st hF (by rw [show kd k0 = 2 from hk0] <;> rfl) (Or.inl (ne43 (K := 2) hk0 (by decide))))
    have c_lt : ¬ ((3 : Int32)) ≤ v2 := c_in
    refine f_X7_put k0 (Or.inl hk0) μ3 (μ3 k0 1) v2 (0 : Int32) (fun μ5 hf206 => ?_)
    exact ih (v2 + (1 : Int32)) μ5 (lt_m c_lt (by omega)) (lt_p (by assumption) c_lt) (Fr.trans hF (Fr.up (by decide) hf206))
set_option maxHeartbeats 2000000 in
theorem f_X2_addState (k0 : Nat) (hk0 : kd k0 = 2) (μ : TMem)  {Q : TMem → Prop} (h : ∀ μ9 : TMem, Fr 2 μ μ9 → Q μ9) : wp_X2_addState k0 μ Q := by
  show ∃ n0x, wpl_X2_addState_2 k0 Q n0x (0 : Int32) μ
  refine ⟨_, fl_wpl_X2_addState_2 μ k0 hk0 (fun μ9 f9 => h μ9 (Fr.trans (Fr.rf) (Fr.up (by decide) f9))) _ (0 : Int32) μ (Nat.lt_succ_self _) (by first | decide | omega) Fr.rf⟩
set_option maxHeartbeats 2000000 in
theorem fl_wpl_X2_clear_12 (μ0 : TMem) (k0 : Nat) (hk0 : kd k0 = 2) (v3 : Int32) {Q : TMem → Prop} (h : ∀ μ9 : TMem, Fr 2 μ0 μ9 → Q μ9) : ∀ (n : Nat) (v2 : Int32) (μ4 : TMem), ((v3).toInt - (v2).toInt).toNat < n → 0 ≤ (v2).toInt → Fr 2 μ0 μ4 → wpl_X2_clear_12 k0 v3 Q n v2 μ4 := by
  intro n
  induction n with
  | zero => intro v2 μ4 hm; exact absurd hm (Nat.not_lt_zero _)
  | succ n ih =>
    intro v2 μ4 hm hi hF
    show (v3 ≤ v2 → (Q (tms μ4 k0 3 (1 : Int32)))) ∧ (¬ v3 ≤ v2 → (wp_X2_addState k0 μ4 (fun (μ6 : TMem) => wpl_X2_clear_12 k0 v3 Q n (v2 + (1 : Int32)) μ6)))
    refine ⟨fun c_ex => ?_, fun c_in => ?_⟩
    · exact h _ (Fr.st hF (by rw [show kd k0 = 2 from hk0] <;> rfl) (Or.inl (ne43 (K := 2) hk0 (by decide))))
    have c_lt : ¬ (v3) ≤ v2 := c_in
    refine f_X2_addState k0 hk0 μ4 (fun μ6 hf207 => ?_)
    exact ih (v2 + (1 : Int32)) μ6 (lt_m c_lt (by omega)) (lt_p (by assumption) c_lt) (Fr.trans hF (Fr.up (by decide) hf207))
set_option maxHeartbeats 2000000 in
theorem f_X2_clear (k0 : Nat) (hk0 : kd k0 = 2) (μ : TMem) (a1 : Int32) {Q : TMem → Prop} (h : ∀ μ9 : TMem, Fr 2 μ μ9 → Q μ9) : wp_X2_clear k0 μ a1 Q := by
  show ∃ n0x, wpl_X2_clear_12 k0 a1 Q n0x (0 : Int32) (tms (tms μ k0 1 (0 : Int32)) k0 2 (0 : Int32))
  refine ⟨_, fl_wpl_X2_clear_12 (tms (tms μ k0 1 (0 : Int32)) k0 2 (0 : Int32)) k0 hk0 a1 (fun μ9 f9 => h μ9 (Fr.trans (Fr.st (Fr.st (Fr.rf) (by rw [show kd k0 = 2 from hk0] <;> rfl) (Or.inl (ne43 (K := 2) hk0 (by decide)))) (by rw [show kd k0 = 2 from hk0] <;> rfl) (Or.inl (ne43 (K := 2) hk0 (by decide)))) (Fr.up (by decide) f9))) _ (0 : Int32) (tms (tms μ k0 1 (0 : Int32)) k0 2 (0 : Int32)) (Nat.lt_succ_self _) (by first | decide | omega) Fr.rf⟩
set_option maxHeartbeats 2000000 in
theorem f_X2_allStates (k0 : Nat) (hk0 : kd k0 = 2) (μ : TMem)  {Q : Int32 → Prop} (h : ∀ r : Int32, Q r) : wp_X2_allStates k0 μ Q := by
  show Q (((1 : Int32) <<< ((μ k0 1) &&& 31)) - (1 : Int32))
  exact h _
set_option maxHeartbeats 2000000 in
theorem f_X2_sowOne (k0 : Nat) (hk0 : kd k0 = 2) (μ : TMem)  {Q : Int32 → TMem → Prop} (h : ∀ (r : Int32) (μ9 : TMem), Fr 0 μ μ9 → Q r μ9) : wp_X2_sowOne k0 μ Q := by
  show wp_X0_draw μ (fun (r2 : Int32) (μ1 : TMem) => ((μ1 k0 1) ≤ 0 → (Q (0 : Int32) μ1)) ∧ (¬ (μ1 k0 1) ≤ 0 → (¬ (μ1 k0 1) = 0 ∧ (Q ((1 : Int32) <<< ((r2 - r2 / (μ1 k0 1) * (μ1 k0 1)) &&& 31)) μ1))))
  refine f_X0_draw μ (fun r2 μ1 hf208 => ?_)
  refine ⟨fun c209 => ?_, fun c210 => ?_⟩
  · exact h _ _ (Fr.trans (Fr.rf) (Fr.up (by decide) hf208))
  · refine ⟨(by first | exact nz_le (by assumption) | exact nz_ch (by assumption)), ?_⟩
    exact h _ _ (Fr.trans (Fr.rf) (Fr.up (by decide) hf208))
set_option maxHeartbeats 2000000 in
theorem fl_wpl_X2_sowSome_5 (μ0 : TMem) (k0 : Nat) (hk0 : kd k0 = 2) (v4 : Int32) {Q : Int32 → TMem → Prop} (h : ∀ (r : Int32) (μ9 : TMem), Fr 0 μ0 μ9 → Q r μ9) : ∀ (n : Nat) (v2 : Int32) (v3 : Int32) (μ5 : TMem), (((μ0 k0 1)).toInt - (v2).toInt).toNat < n → 0 ≤ (v2).toInt → Fr 0 μ0 μ5 → wpl_X2_sowSome_5 k0 v4 Q n v2 v3 μ5 := by
  intro n
  induction n with
  | zero => intro v2 v3 μ5 hm; exact absurd hm (Nat.not_lt_zero _)
  | succ n ih =>
    intro v2 v3 μ5 hm hi hF
    show ((μ5 k0 1) ≤ v2 → (Q v3 μ5)) ∧ (¬ (μ5 k0 1) ≤ v2 → (wp_X0_draw μ5 (fun (r8 : Int32) (μ7 : TMem) => (v4 < 0 → (wpl_X2_sowSome_5 k0 v4 Q n (v2 + (1 : Int32)) v3 μ7)) ∧ (¬ v4 < 0 → (¬ (v4 + (1 : Int32)) = 0 ∧ ((¬ (r8 - r8 / (v4 + (1 : Int32)) * (v4 + (1 : Int32))) = 0 → (wpl_X2_sowSome_5 k0 v4 Q n (v2 + (1 : Int32)) v3 μ7)) ∧ ((r8 - r8 / (v4 + (1 : Int32)) * (v4 + (1 : Int32))) = 0 → (wpl_X2_sowSome_5 k0 v4 Q n (v2 + (1 : Int32)) (v3 ||| ((1 : Int32) <<< (v2 &&& 31))) μ7))))))))
    refine ⟨fun c_ex => ?_, fun c_in => ?_⟩
    · exact h _ _ hF
    have e_k0_1 : μ5 k0 1 = μ0 k0 1 := hF.1 k0 1 (by rw [show kd k0 = 2 from hk0] <;> rfl)
    have c_lt : ¬ ((μ0 k0 1)) ≤ v2 := by
      rw [e_k0_1] at c_in
      exact c_in
    refine f_X0_draw μ5 (fun r8 μ7 hf211 => ?_)
    refine ⟨fun c212 => ?_, fun c213 => ?_⟩
    · exact ih (v2 + (1 : Int32)) v3 μ7 (lt_m c_lt (by omega)) (lt_p (by assumption) c_lt) (Fr.trans hF (Fr.up (by decide) hf211))
    · refine ⟨(by first | exact nz_le (by assumption) | exact nz_ch (by assumption)), ?_⟩
      refine ⟨fun c214 => ?_, fun c215 => ?_⟩
      · exact ih (v2 + (1 : Int32)) v3 μ7 (lt_m c_lt (by omega)) (lt_p (by assumption) c_lt) (Fr.trans hF (Fr.up (by decide) hf211))
      · exact ih (v2 + (1 : Int32)) (v3 ||| ((1 : Int32) <<< (v2 &&& 31))) μ7 (lt_m c_lt (by omega)) (lt_p (by assumption) c_lt) (Fr.trans hF (Fr.up (by decide) hf211))
set_option maxHeartbeats 2000000 in
theorem f_X2_sowSome (k0 : Nat) (hk0 : kd k0 = 2) (μ : TMem) (a2 : Int32) {Q : Int32 → TMem → Prop} (h : ∀ (r : Int32) (μ9 : TMem), Fr 0 μ μ9 → Q r μ9) : wp_X2_sowSome k0 μ a2 Q := by
  show ∃ n0x, wpl_X2_sowSome_5 k0 a2 Q n0x (0 : Int32) (0 : Int32) μ
  refine ⟨_, fl_wpl_X2_sowSome_5 μ k0 hk0 a2 (fun r9 μ9 f9 => h r9 μ9 (Fr.trans (Fr.rf) (Fr.up (by decide) f9))) _ (0 : Int32) (0 : Int32) μ (Nat.lt_succ_self _) (by first | decide | omega) Fr.rf⟩
set_option maxHeartbeats 2000000 in
theorem fl_wpl_X2_sowArrows_13 (μ0 : TMem) (k0 : Nat) (hk0 : kd k0 = 2) (v8 : Int32) (v9 : Int32) {K50 : TMem → Prop} (hK50 : ∀ (u0 : TMem), Fr 0 μ0 u0 → K50 u0) : ∀ (n : Nat) (v7 : Int32) (μ10 : TMem), (((3 : Int32)).toInt - (v7).toInt).toNat < n → 0 ≤ (v7).toInt → Fr 0 μ0 μ10 → wpl_X2_sowArrows_13 k0 v8 v9 K50 n v7 μ10 := by
  intro n
  induction n with
  | zero => intro v7 μ10 hm; exact absurd hm (Nat.not_lt_zero _)
  | succ n ih =>
    intro v7 μ10 hm hi hF
    show ((3 : Int32) ≤ v7 → (K50 μ10)) ∧ (¬ (3 : Int32) ≤ v7 → (∀ J12 : Int32 → TMem → Prop, (∀ (j13 : Int32) (μ14 : TMem), (wp_X7_put k0 μ14 v8 v7 j13 (fun (μ15 : TMem) => wpl_X2_sowArrows_13 k0 v8 v9 K50 n (v7 + (1 : Int32)) μ15)) → J12 j13 μ14) → ((¬ v9 = 0 → (wp_X2_sowSome k0 μ10 v9 (fun (r18 : Int32) (μ17 : TMem) => J12 r18 μ17))) ∧ (v9 = 0 → (wp_X2_sowOne k0 μ10 (fun (r20 : Int32) (μ19 : TMem) => J12 r20 μ19))))))
    refine ⟨fun c_ex => ?_, fun c_in => ?_⟩
    · exact hK50 μ10 hF
    have c_lt : ¬ ((3 : Int32)) ≤ v7 := c_in
    intro J12 hJ12
    refine ⟨fun c216 => ?_, fun c217 => ?_⟩
    · refine f_X2_sowSome k0 hk0 μ10 v9 (fun r18 μ17 hf218 => ?_)
      refine hJ12 r18 μ17 ?_
      refine f_X7_put k0 (Or.inl hk0) μ17 v8 v7 r18 (fun μ15 hf219 => ?_)
      exact ih (v7 + (1 : Int32)) μ15 (lt_m c_lt (by omega)) (lt_p (by assumption) c_lt) (Fr.trans (Fr.trans hF (Fr.up (by decide) hf218)) (Fr.up (by decide) hf219))
    · refine f_X2_sowOne k0 hk0 μ10 (fun r20 μ19 hf220 => ?_)
      refine hJ12 r20 μ19 ?_
      refine f_X7_put k0 (Or.inl hk0) μ19 v8 v7 r20 (fun μ15 hf221 => ?_)
      exact ih (v7 + (1 : Int32)) μ15 (lt_m c_lt (by omega)) (lt_p (by assumption) c_lt) (Fr.trans (Fr.trans hF (Fr.up (by decide) hf220)) (Fr.up (by decide) hf221))
set_option maxHeartbeats 2000000 in
theorem fl_wpl_X2_sowArrows_2 (μ0 : TMem) (k0 : Nat) (hk0 : kd k0 = 2) (v3 : Int32) {Q : TMem → Prop} (h : ∀ μ9 : TMem, Fr 0 μ0 μ9 → Q μ9) : ∀ (n : Nat) (v2 : Int32) (μ4 : TMem), (((μ0 k0 1)).toInt - (v2).toInt).toNat < n → 0 ≤ (v2).toInt → Fr 0 μ0 μ4 → wpl_X2_sowArrows_2 k0 v3 Q n v2 μ4 := by
  intro n
  induction n with
  | zero => intro v2 μ4 hm; exact absurd hm (Nat.not_lt_zero _)
  | succ n ih =>
    intro v2 μ4 hm hi hF
    show ((μ4 k0 1) ≤ v2 → (Q μ4)) ∧ (¬ (μ4 k0 1) ≤ v2 → (∃ n5x, wpl_X2_sowArrows_13 k0 v2 v3 (fun (μ22 : TMem) => wpl_X2_sowArrows_2 k0 v3 Q n (v2 + (1 : Int32)) μ22) n5x (0 : Int32) μ4))
    refine ⟨fun c_ex => ?_, fun c_in => ?_⟩
    · exact h _ hF
    have e_k0_1 : μ4 k0 1 = μ0 k0 1 := hF.1 k0 1 (by rw [show kd k0 = 2 from hk0] <;> rfl)
    have c_lt : ¬ ((μ0 k0 1)) ≤ v2 := by
      rw [e_k0_1] at c_in
      exact c_in
    refine ⟨_, fl_wpl_X2_sowArrows_13 μ4 k0 hk0 v2 v3 ?_ _ (0 : Int32) μ4 (Nat.lt_succ_self _) (by first | decide | omega) Fr.rf⟩
    · intro μ22 hf222
      exact ih (v2 + (1 : Int32)) μ22 (lt_m c_lt (by omega)) (lt_p (by assumption) c_lt) (Fr.trans hF (Fr.up (by decide) hf222))
set_option maxHeartbeats 2000000 in
theorem f_X2_sowArrows (k0 : Nat) (hk0 : kd k0 = 2) (μ : TMem) (a2 : Int32) {Q : TMem → Prop} (h : ∀ μ9 : TMem, Fr 0 μ μ9 → Q μ9) : wp_X2_sowArrows k0 μ a2 Q := by
  show ∃ n0x, wpl_X2_sowArrows_2 k0 a2 Q n0x (0 : Int32) μ
  refine ⟨_, fl_wpl_X2_sowArrows_2 μ k0 hk0 a2 (fun μ9 f9 => h μ9 (Fr.trans (Fr.rf) (Fr.up (by decide) f9))) _ (0 : Int32) μ (Nat.lt_succ_self _) (by first | decide | omega) Fr.rf⟩
set_option maxHeartbeats 2000000 in
theorem fl_wpl_X2_sowGoals_2 (μ0 : TMem) (k0 : Nat) (hk0 : kd k0 = 2) {Q : TMem → Prop} (h : ∀ μ9 : TMem, Fr 1 μ0 μ9 → Q μ9) : ∀ (n : Nat) (v2 : Int32) (μ3 : TMem), (((μ0 k0 1)).toInt - (v2).toInt).toNat < n → 0 ≤ (v2).toInt → Fr 1 μ0 μ3 → wpl_X2_sowGoals_2 k0 Q n v2 μ3 := by
  intro n
  induction n with
  | zero => intro v2 μ3 hm; exact absurd hm (Nat.not_lt_zero _)
  | succ n ih =>
    intro v2 μ3 hm hi hF
    show ((μ3 k0 1) ≤ v2 → (Q μ3)) ∧ (¬ (μ3 k0 1) ≤ v2 → (wp_X0_draw μ3 (fun (r6 : Int32) (μ5 : TMem) => (¬ (r6 - r6 / (2 : Int32) * (2 : Int32)) = 0 → (wpl_X2_sowGoals_2 k0 Q n (v2 + (1 : Int32)) μ5)) ∧ ((r6 - r6 / (2 : Int32) * (2 : Int32)) = 0 → (wpl_X2_sowGoals_2 k0 Q n (v2 + (1 : Int32)) (tms μ5 k0 2 ((μ5 k0 2) ||| ((1 : Int32) <<< (v2 &&& 31)))))))))
    refine ⟨fun c_ex => ?_, fun c_in => ?_⟩
    · exact h _ hF
    have e_k0_1 : μ3 k0 1 = μ0 k0 1 := hF.1 k0 1 (by rw [show kd k0 = 2 from hk0] <;> rfl)
    have c_lt : ¬ ((μ0 k0 1)) ≤ v2 := by
      rw [e_k0_1] at c_in
      exact c_in
    refine f_X0_draw μ3 (fun r6 μ5 hf223 => ?_)
    refine ⟨fun c224 => ?_, fun c225 => ?_⟩
    · exact ih (v2 + (1 : Int32)) μ5 (lt_m c_lt (by omega)) (lt_p (by assumption) c_lt) (Fr.trans hF (Fr.up (by decide) hf223))
    · exact ih (v2 + (1 : Int32)) (tms μ5 k0 2 ((μ5 k0 2) ||| ((1 : Int32) <<< (v2 &&& 31)))) (lt_m c_lt (by omega)) (lt_p (by assumption) c_lt) (Fr.st (Fr.trans hF (Fr.up (by decide) hf223)) (by rw [show kd k0 = 2 from hk0] <;> rfl) (Or.inl (ne43 (K := 2) hk0 (by decide))))
set_option maxHeartbeats 2000000 in
theorem f_X2_sowGoals (k0 : Nat) (hk0 : kd k0 = 2) (μ : TMem)  {Q : TMem → Prop} (h : ∀ μ9 : TMem, Fr 1 μ μ9 → Q μ9) : wp_X2_sowGoals k0 μ Q := by
  show ∃ n0x, wpl_X2_sowGoals_2 k0 Q n0x (0 : Int32) μ
  refine ⟨_, fl_wpl_X2_sowGoals_2 μ k0 hk0 (fun μ9 f9 => h μ9 (Fr.trans (Fr.rf) (Fr.up (by decide) f9))) _ (0 : Int32) μ (Nat.lt_succ_self _) (by first | decide | omega) Fr.rf⟩
set_option maxHeartbeats 2000000 in
theorem fl_wpl_X7_isSameTable_36 (k0 : Nat) (hk0 : kd k0 = 2 ∨ kd k0 = 5) (k1 : Nat) (hk1 : kd k1 = 2 ∨ kd k1 = 5) (μ : TMem) (v8 : Int32) {K64 : Prop} {Q : Int32 → Prop} (hK64 : K64) (h : ∀ r : Int32, isB r → Q r) : ∀ (n : Nat) (v7 : Int32), (((3 : Int32)).toInt - (v7).toInt).toNat < n → 0 ≤ (v7).toInt → wpl_X7_isSameTable_36 k0 k1 μ v8 K64 Q n v7 := by
  intro n
  induction n with
  | zero => intro v7 hm; exact absurd hm (Nat.not_lt_zero _)
  | succ n ih =>
    intro v7 hm hi
    show ((3 : Int32) ≤ v7 → (K64)) ∧ (¬ (3 : Int32) ≤ v7 → (wp_X7_at k0 μ v8 v7 (fun (r10 : Int32) => wp_X7_at k1 μ v8 v7 (fun (r13 : Int32) => (r10 = r13 → (wpl_X7_isSameTable_36 k0 k1 μ v8 K64 Q n (v7 + (1 : Int32)))) ∧ (¬ r10 = r13 → (Q (0 : Int32)))))))
    refine ⟨fun c_ex => ?_, fun c_in => ?_⟩
    · exact hK64
    have c_lt : ¬ ((3 : Int32)) ≤ v7 := c_in
    refine f_X7_at k0 hk0 μ v8 v7 (fun r10 => ?_)
    refine f_X7_at k1 hk1 μ v8 v7 (fun r13 => ?_)
    refine ⟨fun c226 => ?_, fun c227 => ?_⟩
    · exact ih (v7 + (1 : Int32)) (lt_m c_lt (by omega)) (lt_p (by assumption) c_lt)
    · exact h _ (by first | assumption | exact Or.inl rfl | exact Or.inr rfl | exact isB_or (by assumption) (by first | assumption | exact Or.inl rfl | exact Or.inr rfl))
set_option maxHeartbeats 2000000 in
theorem fl_wpl_X7_isSameTable_26 (k0 : Nat) (hk0 : kd k0 = 2 ∨ kd k0 = 5) (k1 : Nat) (hk1 : kd k1 = 2 ∨ kd k1 = 5) (μ : TMem) {Q : Int32 → Prop} (h : ∀ r : Int32, isB r → Q r) : ∀ (n : Nat) (v4 : Int32), (((μ k0 1)).toInt - (v4).toInt).toNat < n → 0 ≤ (v4).toInt → wpl_X7_isSameTable_26 k0 k1 μ Q n v4 := by
  intro n
  induction n with
  | zero => intro v4 hm; exact absurd hm (Nat.not_lt_zero _)
  | succ n ih =>
    intro v4 hm hi
    show ((μ k0 1) ≤ v4 → (Q (1 : Int32))) ∧ (¬ (μ k0 1) ≤ v4 → (∃ n5x, wpl_X7_isSameTable_36 k0 k1 μ v4 (wpl_X7_isSameTable_26 k0 k1 μ Q n (v4 + (1 : Int32))) Q n5x (0 : Int32)))
    refine ⟨fun c_ex => ?_, fun c_in => ?_⟩
    · exact h _ (by first | assumption | exact Or.inl rfl | exact Or.inr rfl | exact isB_or (by assumption) (by first | assumption | exact Or.inl rfl | exact Or.inr rfl))
    have c_lt : ¬ ((μ k0 1)) ≤ v4 := c_in
    refine ⟨_, fl_wpl_X7_isSameTable_36 k0 hk0 k1 hk1 μ v4 ?_ h _ (0 : Int32) (Nat.lt_succ_self _) (by first | decide | omega)⟩
    · exact ih (v4 + (1 : Int32)) (lt_m c_lt (by omega)) (lt_p (by assumption) c_lt)
set_option maxHeartbeats 2000000 in
theorem f_X7_isSameTable (k0 : Nat) (hk0 : kd k0 = 2 ∨ kd k0 = 5) (k1 : Nat) (hk1 : kd k1 = 2 ∨ kd k1 = 5) (μ : TMem)  {Q : Int32 → Prop} (h : ∀ r : Int32, isB r → Q r) : wp_X7_isSameTable k0 k1 μ Q := by
  show (¬ (μ k0 1) = (μ k1 1) → (Q (0 : Int32))) ∧ ((μ k0 1) = (μ k1 1) → (((μ k0 2) = (μ k1 2) → (∃ n2x, wpl_X7_isSameTable_26 k0 k1 μ Q n2x (0 : Int32))) ∧ (¬ (μ k0 2) = (μ k1 2) → (Q (0 : Int32)))))
  refine ⟨fun c228 => ?_, fun c229 => ?_⟩
  · exact h _ (by first | assumption | exact Or.inl rfl | exact Or.inr rfl | exact isB_or (by assumption) (by first | assumption | exact Or.inl rfl | exact Or.inr rfl))
  · refine ⟨fun c230 => ?_, fun c231 => ?_⟩
    · refine ⟨_, fl_wpl_X7_isSameTable_26 k0 hk0 k1 hk1 μ h _ (0 : Int32) (Nat.lt_succ_self _) (by first | decide | omega)⟩
    · exact h _ (by first | assumption | exact Or.inl rfl | exact Or.inr rfl | exact isB_or (by assumption) (by first | assumption | exact Or.inl rfl | exact Or.inr rfl))
set_option maxHeartbeats 2000000 in
theorem f_X2_isSameAs (k0 : Nat) (hk0 : kd k0 = 2) (k1 : Nat) (hk1 : kd k1 = 2) (μ : TMem)  {Q : Int32 → Prop} (h : ∀ r : Int32, isB r → Q r) : wp_X2_isSameAs k0 k1 μ Q := by
  show (¬ (μ k0 3) = (μ k1 3) → (Q (0 : Int32))) ∧ ((μ k0 3) = (μ k1 3) → (wp_X7_isSameTable k0 k1 μ (fun (r2 : Int32) => (r2 = 0 → (Q (0 : Int32))) ∧ (¬ r2 = 0 → (Q (1 : Int32))))))
  refine ⟨fun c232 => ?_, fun c233 => ?_⟩
  · exact h _ (by first | assumption | exact Or.inl rfl | exact Or.inr rfl | exact isB_or (by assumption) (by first | assumption | exact Or.inl rfl | exact Or.inr rfl))
  · refine f_X7_isSameTable k0 (Or.inl hk0) k1 (Or.inl hk1) μ (fun r2 b234 => ?_)
    refine ⟨fun c235 => ?_, fun c236 => ?_⟩
    · exact h _ (by first | assumption | exact Or.inl rfl | exact Or.inr rfl | exact isB_or (by assumption) (by first | assumption | exact Or.inl rfl | exact Or.inr rfl))
    · exact h _ (by first | assumption | exact Or.inl rfl | exact Or.inr rfl | exact isB_or (by assumption) (by first | assumption | exact Or.inl rfl | exact Or.inr rfl))
set_option maxHeartbeats 2000000 in
theorem fl_wpl_X2_become_36 (μ0 : TMem) (k0 : Nat) (hk0 : kd k0 = 2) (k1 : Nat) (hk1 : kd k1 = 2) (v7 : Int32) {K59 : TMem → Prop} (hK59 : ∀ (u0 : TMem), Fr 0 μ0 u0 → K59 u0) : ∀ (n : Nat) (v6 : Int32) (μ8 : TMem), (((3 : Int32)).toInt - (v6).toInt).toNat < n → 0 ≤ (v6).toInt → Fr 0 μ0 μ8 → wpl_X2_become_36 k0 k1 v7 K59 n v6 μ8 := by
  intro n
  induction n with
  | zero => intro v6 μ8 hm; exact absurd hm (Nat.not_lt_zero _)
  | succ n ih =>
    intro v6 μ8 hm hi hF
    show ((3 : Int32) ≤ v6 → (K59 μ8)) ∧ (¬ (3 : Int32) ≤ v6 → (wp_X7_at k1 μ8 v7 v6 (fun (r10 : Int32) => wp_X7_put k0 μ8 v7 v6 r10 (fun (μ13 : TMem) => wpl_X2_become_36 k0 k1 v7 K59 n (v6 + (1 : Int32)) μ13))))
    refine ⟨fun c_ex => ?_, fun c_in => ?_⟩
    · exact hK59 μ8 hF
    have c_lt : ¬ ((3 : Int32)) ≤ v6 := c_in
    refine f_X7_at k1 (Or.inl hk1) μ8 v7 v6 (fun r10 => ?_)
    refine f_X7_put k0 (Or.inl hk0) μ8 v7 v6 r10 (fun μ13 hf237 => ?_)
    exact ih (v6 + (1 : Int32)) μ13 (lt_m c_lt (by omega)) (lt_p (by assumption) c_lt) (Fr.trans hF (Fr.up (by decide) hf237))
set_option maxHeartbeats 2000000 in
theorem fl_wpl_X2_become_26 (μ0 : TMem) (k0 : Nat) (hk0 : kd k0 = 2) (k1 : Nat) (hk1 : kd k1 = 2) {Q : TMem → Prop} (h : ∀ μ9 : TMem, Fr 0 μ0 μ9 → Q μ9) : ∀ (n : Nat) (v2 : Int32) (μ3 : TMem), (((μ0 k0 1)).toInt - (v2).toInt).toNat < n → 0 ≤ (v2).toInt → Fr 0 μ0 μ3 → wpl_X2_become_26 k0 k1 Q n v2 μ3 := by
  intro n
  induction n with
  | zero => intro v2 μ3 hm; exact absurd hm (Nat.not_lt_zero _)
  | succ n ih =>
    intro v2 μ3 hm hi hF
    show ((μ3 k0 1) ≤ v2 → (Q μ3)) ∧ (¬ (μ3 k0 1) ≤ v2 → (∃ n4x, wpl_X2_become_36 k0 k1 v2 (fun (μ15 : TMem) => wpl_X2_become_26 k0 k1 Q n (v2 + (1 : Int32)) μ15) n4x (0 : Int32) μ3))
    refine ⟨fun c_ex => ?_, fun c_in => ?_⟩
    · exact h _ hF
    have e_k0_1 : μ3 k0 1 = μ0 k0 1 := hF.1 k0 1 (by rw [show kd k0 = 2 from hk0] <;> rfl)
    have c_lt : ¬ ((μ0 k0 1)) ≤ v2 := by
      rw [e_k0_1] at c_in
      exact c_in
    refine ⟨_, fl_wpl_X2_become_36 μ3 k0 hk0 k1 hk1 v2 ?_ _ (0 : Int32) μ3 (Nat.lt_succ_self _) (by first | decide | omega) Fr.rf⟩
    · intro μ15 hf238
      exact ih (v2 + (1 : Int32)) μ15 (lt_m c_lt (by omega)) (lt_p (by assumption) c_lt) (Fr.trans hF (Fr.up (by decide) hf238))
set_option maxHeartbeats 2000000 in
theorem f_X2_become (k0 : Nat) (hk0 : kd k0 = 2) (k1 : Nat) (hk1 : kd k1 = 2) (μ : TMem)  {Q : TMem → Prop} (h : ∀ μ9 : TMem, Fr 2 μ μ9 → Q μ9) : wp_X2_become k0 k1 μ Q := by
  show ∃ n0x, wpl_X2_become_26 k0 k1 Q n0x (0 : Int32) (tms (tms (tms μ k0 1 (μ k1 1)) k0 3 ((tms μ k0 1 (μ k1 1)) k1 3)) k0 2 ((tms (tms μ k0 1 (μ k1 1)) k0 3 ((tms μ k0 1 (μ k1 1)) k1 3)) k1 2))
  refine ⟨_, fl_wpl_X2_become_26 (tms (tms (tms μ k0 1 (μ k1 1)) k0 3 ((tms μ k0 1 (μ k1 1)) k1 3)) k0 2 ((tms (tms μ k0 1 (μ k1 1)) k0 3 ((tms μ k0 1 (μ k1 1)) k1 3)) k1 2)) k0 hk0 k1 hk1 (fun μ9 f9 => h μ9 (Fr.trans (Fr.st (Fr.st (Fr.st (Fr.rf) (by rw [show kd k0 = 2 from hk0] <;> rfl) (Or.inl (ne43 (K := 2) hk0 (by decide)))) (by rw [show kd k0 = 2 from hk0] <;> rfl) (Or.inl (ne43 (K := 2) hk0 (by decide)))) (by rw [show kd k0 = 2 from hk0] <;> rfl) (Or.inl (ne43 (K := 2) hk0 (by decide)))) (Fr.up (by decide) f9))) _ (0 : Int32) (tms (tms (tms μ k0 1 (μ k1 1)) k0 3 ((tms μ k0 1 (μ k1 1)) k1 3)) k0 2 ((tms (tms μ k0 1 (μ k1 1)) k0 3 ((tms μ k0 1 (μ k1 1)) k1 3)) k1 2)) (Nat.lt_succ_self _) (by first | decide | omega) Fr.rf⟩
set_option maxHeartbeats 2000000 in
theorem fl_wpl_X2_sources_5 (k0 : Nat) (hk0 : kd k0 = 2) (μ : TMem) (v4 : Int32) (v5 : Int32) {Q : Int32 → Prop} (h : ∀ r : Int32, Q r) : ∀ (n : Nat) (v2 : Int32) (v3 : Int32), (((μ k0 1)).toInt - (v2).toInt).toNat < n → 0 ≤ (v2).toInt → wpl_X2_sources_5 k0 μ v4 v5 Q n v2 v3 := by
  intro n
  induction n with
  | zero => intro v2 v3 hm; exact absurd hm (Nat.not_lt_zero _)
  | succ n ih =>
    intro v2 v3 hm hi
    show ((μ k0 1) ≤ v2 → (Q v3)) ∧ (¬ (μ k0 1) ≤ v2 → (wp_X7_at k0 μ v2 v5 (fun (r7 : Int32) => wp_X9_isIn r7 v4 (fun (r10 : Int32) => (r10 = 0 → (wpl_X2_sources_5 k0 μ v4 v5 Q n (v2 + (1 : Int32)) v3)) ∧ (¬ r10 = 0 → (wpl_X2_sources_5 k0 μ v4 v5 Q n (v2 + (1 : Int32)) (v3 ||| ((1 : Int32) <<< (v2 &&& 31)))))))))
    refine ⟨fun c_ex => ?_, fun c_in => ?_⟩
    · exact h _
    have c_lt : ¬ ((μ k0 1)) ≤ v2 := c_in
    refine f_X7_at k0 (Or.inl hk0) μ v2 v5 (fun r7 => ?_)
    refine f_X9_isIn r7 v4 (fun r10 b239 => ?_)
    refine ⟨fun c240 => ?_, fun c241 => ?_⟩
    · exact ih (v2 + (1 : Int32)) v3 (lt_m c_lt (by omega)) (lt_p (by assumption) c_lt)
    · exact ih (v2 + (1 : Int32)) (v3 ||| ((1 : Int32) <<< (v2 &&& 31))) (lt_m c_lt (by omega)) (lt_p (by assumption) c_lt)
set_option maxHeartbeats 2000000 in
theorem f_X2_sources (k0 : Nat) (hk0 : kd k0 = 2) (μ : TMem) (a1 : Int32) (a2 : Int32) {Q : Int32 → Prop} (h : ∀ r : Int32, Q r) : wp_X2_sources k0 μ a1 a2 Q := by
  show ∃ n0x, wpl_X2_sources_5 k0 μ a1 a2 Q n0x (0 : Int32) (0 : Int32)
  refine ⟨_, fl_wpl_X2_sources_5 k0 hk0 μ a1 a2 h _ (0 : Int32) (0 : Int32) (Nat.lt_succ_self _) (by first | decide | omega)⟩
set_option maxHeartbeats 2000000 in
theorem fl_wpl_X2_becomeRound_36 (μ0 : TMem) (k0 : Nat) (hk0 : kd k0 = 2) (k1 : Nat) (hk1 : kd k1 = 2) (v7 : Int32) {K59 : TMem → Prop} (hK59 : ∀ (u0 : TMem), Fr 0 μ0 u0 → K59 u0) : ∀ (n : Nat) (v6 : Int32) (μ8 : TMem), (((3 : Int32)).toInt - (v6).toInt).toNat < n → 0 ≤ (v6).toInt → Fr 0 μ0 μ8 → wpl_X2_becomeRound_36 k0 k1 v7 K59 n v6 μ8 := by
  intro n
  induction n with
  | zero => intro v6 μ8 hm; exact absurd hm (Nat.not_lt_zero _)
  | succ n ih =>
    intro v6 μ8 hm hi hF
    show ((3 : Int32) ≤ v6 → (K59 μ8)) ∧ (¬ (3 : Int32) ≤ v6 → (wp_X2_sources k1 μ8 v7 v6 (fun (r10 : Int32) => wp_X7_put k0 μ8 v7 v6 r10 (fun (μ13 : TMem) => wpl_X2_becomeRound_36 k0 k1 v7 K59 n (v6 + (1 : Int32)) μ13))))
    refine ⟨fun c_ex => ?_, fun c_in => ?_⟩
    · exact hK59 μ8 hF
    have c_lt : ¬ ((3 : Int32)) ≤ v6 := c_in
    refine f_X2_sources k1 hk1 μ8 v7 v6 (fun r10 => ?_)
    refine f_X7_put k0 (Or.inl hk0) μ8 v7 v6 r10 (fun μ13 hf242 => ?_)
    exact ih (v6 + (1 : Int32)) μ13 (lt_m c_lt (by omega)) (lt_p (by assumption) c_lt) (Fr.trans hF (Fr.up (by decide) hf242))
set_option maxHeartbeats 2000000 in
theorem fl_wpl_X2_becomeRound_26 (μ0 : TMem) (k0 : Nat) (hk0 : kd k0 = 2) (k1 : Nat) (hk1 : kd k1 = 2) {Q : TMem → Prop} (h : ∀ μ9 : TMem, Fr 0 μ0 μ9 → Q μ9) : ∀ (n : Nat) (v2 : Int32) (μ3 : TMem), (((μ0 k0 1)).toInt - (v2).toInt).toNat < n → 0 ≤ (v2).toInt → Fr 0 μ0 μ3 → wpl_X2_becomeRound_26 k0 k1 Q n v2 μ3 := by
  intro n
  induction n with
  | zero => intro v2 μ3 hm; exact absurd hm (Nat.not_lt_zero _)
  | succ n ih =>
    intro v2 μ3 hm hi hF
    show ((μ3 k0 1) ≤ v2 → (Q μ3)) ∧ (¬ (μ3 k0 1) ≤ v2 → (∃ n4x, wpl_X2_becomeRound_36 k0 k1 v2 (fun (μ15 : TMem) => wpl_X2_becomeRound_26 k0 k1 Q n (v2 + (1 : Int32)) μ15) n4x (0 : Int32) μ3))
    refine ⟨fun c_ex => ?_, fun c_in => ?_⟩
    · exact h _ hF
    have e_k0_1 : μ3 k0 1 = μ0 k0 1 := hF.1 k0 1 (by rw [show kd k0 = 2 from hk0] <;> rfl)
    have c_lt : ¬ ((μ0 k0 1)) ≤ v2 := by
      rw [e_k0_1] at c_in
      exact c_in
    refine ⟨_, fl_wpl_X2_becomeRound_36 μ3 k0 hk0 k1 hk1 v2 ?_ _ (0 : Int32) μ3 (Nat.lt_succ_self _) (by first | decide | omega) Fr.rf⟩
    · intro μ15 hf243
      exact ih (v2 + (1 : Int32)) μ15 (lt_m c_lt (by omega)) (lt_p (by assumption) c_lt) (Fr.trans hF (Fr.up (by decide) hf243))
set_option maxHeartbeats 2000000 in
theorem f_X2_becomeRound (k0 : Nat) (hk0 : kd k0 = 2) (k1 : Nat) (hk1 : kd k1 = 2) (μ : TMem)  {Q : TMem → Prop} (h : ∀ μ9 : TMem, Fr 2 μ μ9 → Q μ9) : wp_X2_becomeRound k0 k1 μ Q := by
  show ∃ n0x, wpl_X2_becomeRound_26 k0 k1 Q n0x (0 : Int32) (tms (tms (tms μ k0 1 (μ k1 1)) k0 3 ((tms μ k0 1 (μ k1 1)) k1 2)) k0 2 ((tms (tms μ k0 1 (μ k1 1)) k0 3 ((tms μ k0 1 (μ k1 1)) k1 2)) k1 3))
  refine ⟨_, fl_wpl_X2_becomeRound_26 (tms (tms (tms μ k0 1 (μ k1 1)) k0 3 ((tms μ k0 1 (μ k1 1)) k1 2)) k0 2 ((tms (tms μ k0 1 (μ k1 1)) k0 3 ((tms μ k0 1 (μ k1 1)) k1 2)) k1 3)) k0 hk0 k1 hk1 (fun μ9 f9 => h μ9 (Fr.trans (Fr.st (Fr.st (Fr.st (Fr.rf) (by rw [show kd k0 = 2 from hk0] <;> rfl) (Or.inl (ne43 (K := 2) hk0 (by decide)))) (by rw [show kd k0 = 2 from hk0] <;> rfl) (Or.inl (ne43 (K := 2) hk0 (by decide)))) (by rw [show kd k0 = 2 from hk0] <;> rfl) (Or.inl (ne43 (K := 2) hk0 (by decide)))) (Fr.up (by decide) f9))) _ (0 : Int32) (tms (tms (tms μ k0 1 (μ k1 1)) k0 3 ((tms μ k0 1 (μ k1 1)) k1 2)) k0 2 ((tms (tms μ k0 1 (μ k1 1)) k0 3 ((tms μ k0 1 (μ k1 1)) k1 2)) k1 3)) (Nat.lt_succ_self _) (by first | decide | omega) Fr.rf⟩
end
/-! part 86.t3 -/
section
set_option maxHeartbeats 2000000 in
theorem f_X2_closeUp (a0 : Int32) (a1 : Int32) {Q : Int32 → Prop} (h : ∀ r : Int32, Q r) : wp_X2_closeUp a0 a1 Q := by
  show Q ((a0 &&& (((1 : Int32) <<< (a1 &&& 31)) - (1 : Int32))) ||| ((a0 >>> ((a1 + (1 : Int32)) &&& 31)) <<< (a1 &&& 31)))
  exact h _
set_option maxHeartbeats 2000000 in
theorem fl_wpl_X2_removeState_28 (μ0 : TMem) (k0 : Nat) (hk0 : kd k0 = 2) (v10 : Int32) (v11 : Int32) (v12 : Int32) {K58 : TMem → Prop} (hK58 : ∀ (u0 : TMem), Fr 0 μ0 u0 → K58 u0) : ∀ (n : Nat) (v9 : Int32) (μ13 : TMem), (((3 : Int32)).toInt - (v9).toInt).toNat < n → 0 ≤ (v9).toInt → Fr 0 μ0 μ13 → wpl_X2_removeState_28 k0 v10 v11 v12 K58 n v9 μ13 := by
  intro n
  induction n with
  | zero => intro v9 μ13 hm; exact absurd hm (Nat.not_lt_zero _)
  | succ n ih =>
    intro v9 μ13 hm hi hF
    show ((3 : Int32) ≤ v9 → (K58 μ13)) ∧ (¬ (3 : Int32) ≤ v9 → (wp_X7_at k0 μ13 v10 v9 (fun (r15 : Int32) => wp_X2_closeUp r15 v12 (fun (r18 : Int32) => wp_X7_put k0 μ13 v11 v9 r18 (fun (μ19 : TMem) => wpl_X2_removeState_28 k0 v10 v11 v12 K58 n (v9 + (1 : Int32)) μ19)))))
    refine ⟨fun c_ex => ?_, fun c_in => ?_⟩
    · exact hK58 μ13 hF
    have c_lt : ¬ ((3 : Int32)) ≤ v9 := c_in
    refine f_X7_at k0 (Or.inl hk0) μ13 v10 v9 (fun r15 => ?_)
    refine f_X2_closeUp r15 v12 (fun r18 => ?_)
    refine f_X7_put k0 (Or.inl hk0) μ13 v11 v9 r18 (fun μ19 hf244 => ?_)
    exact ih (v9 + (1 : Int32)) μ19 (lt_m c_lt (by omega)) (lt_p (by assumption) c_lt) (Fr.trans hF (Fr.up (by decide) hf244))
set_option maxHeartbeats 2000000 in
theorem fl_wpl_X2_removeState_2 (μ0 : TMem) (k0 : Nat) (hk0 : kd k0 = 2) (v3 : Int32) {K64 : TMem → Prop} (hK64 : ∀ (u0 : TMem), Fr 0 μ0 u0 → K64 u0) : ∀ (n : Nat) (v2 : Int32) (μ4 : TMem), ((((μ0 k0 1) - (1 : Int32))).toInt - (v2).toInt).toNat < n → 0 ≤ (v2).toInt → Fr 0 μ0 μ4 → wpl_X2_removeState_2 k0 v3 K64 n v2 μ4 := by
  intro n
  induction n with
  | zero => intro v2 μ4 hm; exact absurd hm (Nat.not_lt_zero _)
  | succ n ih =>
    intro v2 μ4 hm hi hF
    show (((μ4 k0 1) - (1 : Int32)) ≤ v2 → (K64 μ4)) ∧ (¬ ((μ4 k0 1) - (1 : Int32)) ≤ v2 → (∀ J6 : Int32 → Prop, (∀ (j7 : Int32), (∃ n7x, wpl_X2_removeState_28 k0 j7 v2 v3 (fun (μ21 : TMem) => wpl_X2_removeState_2 k0 v3 K64 n (v2 + (1 : Int32)) μ21) n7x (0 : Int32) μ4) → J6 j7) → ((v3 ≤ v2 → (J6 (v2 + (1 : Int32)))) ∧ (¬ v3 ≤ v2 → (J6 v2)))))
    refine ⟨fun c_ex => ?_, fun c_in => ?_⟩
    · exact hK64 μ4 hF
    have e_k0_1 : μ4 k0 1 = μ0 k0 1 := hF.1 k0 1 (by rw [show kd k0 = 2 from hk0] <;> rfl)
    have c_lt : ¬ (((μ0 k0 1) - (1 : Int32))) ≤ v2 := by
      rw [e_k0_1] at c_in
      exact c_in
    intro J6 hJ6
    refine ⟨fun c245 => ?_, fun c246 => ?_⟩
    · refine hJ6 (v2 + (1 : Int32)) ?_
      refine ⟨_, fl_wpl_X2_removeState_28 μ4 k0 hk0 (v2 + (1 : Int32)) v2 v3 ?_ _ (0 : Int32) μ4 (Nat.lt_succ_self _) (by first | decide | omega) Fr.rf⟩
      · intro μ21 hf247
        exact ih (v2 + (1 : Int32)) μ21 (lt_m c_lt (by omega)) (lt_p (by assumption) c_lt) (Fr.trans hF (Fr.up (by decide) hf247))
    · refine hJ6 v2 ?_
      refine ⟨_, fl_wpl_X2_removeState_28 μ4 k0 hk0 v2 v2 v3 ?_ _ (0 : Int32) μ4 (Nat.lt_succ_self _) (by first | decide | omega) Fr.rf⟩
      · intro μ21 hf248
        exact ih (v2 + (1 : Int32)) μ21 (lt_m c_lt (by omega)) (lt_p (by assumption) c_lt) (Fr.trans hF (Fr.up (by decide) hf248))
set_option maxHeartbeats 2000000 in
theorem f_X2_removeState (k0 : Nat) (hk0 : kd k0 = 2) (μ : TMem) (a1 : Int32) {Q : TMem → Prop} (h : ∀ μ9 : TMem, Fr 2 μ μ9 → Q μ9) : wp_X2_removeState k0 μ a1 Q := by
  show ∃ n0x, wpl_X2_removeState_2 k0 a1 (fun (μ24 : TMem) => wp_X2_closeUp (μ24 k0 3) a1 (fun (r25 : Int32) => wp_X2_closeUp ((tms μ24 k0 3 r25) k0 2) a1 (fun (r26 : Int32) => Q (tms (tms (tms μ24 k0 3 r25) k0 2 r26) k0 1 (((tms (tms μ24 k0 3 r25) k0 2 r26) k0 1) - (1 : Int32)))))) n0x (0 : Int32) μ
  refine ⟨_, fl_wpl_X2_removeState_2 μ k0 hk0 a1 ?_ _ (0 : Int32) μ (Nat.lt_succ_self _) (by first | decide | omega) Fr.rf⟩
  · intro μ24 hf249
    refine f_X2_closeUp (μ24 k0 3) a1 (fun r25 => ?_)
    refine f_X2_closeUp ((tms μ24 k0 3 r25) k0 2) a1 (fun r26 => ?_)
    exact h _ (Fr.st (Fr.st (Fr.st (Fr.trans (Fr.rf) (Fr.up (by decide) hf249)) (by rw [show kd k0 = 2 from hk0] <;> rfl) (Or.inl (ne43 (K := 2) hk0 (by decide)))) (by rw [show kd k0 = 2 from hk0] <;> rfl) (Or.inl (ne43 (K := 2) hk0 (by decide)))) (by rw [show kd k0 = 2 from hk0] <;> rfl) (Or.inl (ne43 (K := 2) hk0 (by decide))))
set_option maxHeartbeats 2000000 in
theorem fl_wpl_X2_countOneByOne_10 (k0 : Nat) (hk0 : kd k0 = 2) (μ : TMem) (v5 : Int32) (v6 : Int32) {Q : Int32 → Prop} (h : ∀ r : Int32, Q r) : ∀ (n : Nat) (v3 : Int32) (v4 : Int32), ((v5).toInt - (v3).toInt).toNat < n → 0 ≤ (v3).toInt → wpl_X2_countOneByOne_10 k0 μ v5 v6 Q n v3 v4 := by
  intro n
  induction n with
  | zero => intro v3 v4 hm; exact absurd hm (Nat.not_lt_zero _)
  | succ n ih =>
    intro v3 v4 hm hi
    show (v5 ≤ v3 → (Q v4)) ∧ (¬ v5 ≤ v3 → (wp_X2_isTaking k0 μ v6 v3 (fun (r8 : Int32) => (r8 = 0 → (wpl_X2_countOneByOne_10 k0 μ v5 v6 Q n (v3 + (1 : Int32)) v4)) ∧ (¬ r8 = 0 → (wpl_X2_countOneByOne_10 k0 μ v5 v6 Q n (v3 + (1 : Int32)) (v4 + (1 : Int32)))))))
    refine ⟨fun c_ex => ?_, fun c_in => ?_⟩
    · exact h _
    have c_lt : ¬ (v5) ≤ v3 := c_in
    refine f_X2_isTaking k0 hk0 μ v6 v3 (fun r8 b250 => ?_)
    refine ⟨fun c251 => ?_, fun c252 => ?_⟩
    · exact ih (v3 + (1 : Int32)) v4 (lt_m c_lt (by omega)) (lt_p (by assumption) c_lt)
    · exact ih (v3 + (1 : Int32)) (v4 + (1 : Int32)) (lt_m c_lt (by omega)) (lt_p (by assumption) c_lt)
set_option maxHeartbeats 2000000 in
theorem f_X2_countOneByOne (k0 : Nat) (hk0 : kd k0 = 2) (μ : TMem) (a1 : Int32) {Q : Int32 → Prop} (h : ∀ r : Int32, Q r) : wp_X2_countOneByOne k0 μ a1 Q := by
  show wp_X9_countCodes a1 (fun (r1 : Int32) => ∃ n1x, wpl_X2_countOneByOne_10 k0 μ r1 a1 Q n1x (0 : Int32) (0 : Int32))
  refine f_X9_countCodes a1 (fun r1 => ?_)
  refine ⟨_, fl_wpl_X2_countOneByOne_10 k0 hk0 μ r1 a1 h _ (0 : Int32) (0 : Int32) (Nat.lt_succ_self _) (by first | decide | omega)⟩
set_option maxHeartbeats 2000000 in
theorem f_X3_makeByTurning (k1 : Nat) (hk1 : kd k1 = 2) (k2 : Nat) (hk2 : kd k2 = 5) (μ : TMem)  {Q : Int32 → TMem → Prop} (h : ∀ (r : Int32) (μ9 : TMem), isB r → Fr 2 μ μ9 → Q r μ9) : wp_X3_makeByTurning k1 k2 μ Q := by
  show wp_X2_becomeRound 31 k1 μ (fun (μ1 : TMem) => wp_X3_makeOneWay 31 33 μ1 (fun (r3 : Int32) (μ2 : TMem) => (¬ r3 = 0 → (wp_X2_becomePlain 29 33 μ2 (fun (μ5 : TMem) => wp_X2_becomeRound 31 29 μ5 (fun (μ6 : TMem) => wp_X3_makeOneWay 31 k2 μ6 (fun (r8 : Int32) (μ7 : TMem) => isB r8 ∧ Q r8 μ7))))) ∧ (r3 = 0 → (Q (0 : Int32) μ2))))
  refine f_X2_becomeRound 31 rfl k1 hk1 μ (fun μ1 hf253 => ?_)
  refine f_X3_makeOneWay 31 rfl 33 rfl μ1 (fun r3 μ2 b254 hf255 => ?_)
  refine ⟨fun c256 => ?_, fun c257 => ?_⟩
  · refine f_X2_becomePlain 29 rfl 33 rfl μ2 (fun μ5 hf258 => ?_)
    refine f_X2_becomeRound 31 rfl 29 rfl μ5 (fun μ6 hf259 => ?_)
    refine f_X3_makeOneWay 31 rfl k2 hk2 μ6 (fun r8 μ7 b260 hf261 => ?_)
    refine ⟨(by first | assumption | exact Or.inl rfl | exact Or.inr rfl | exact isB_or (by assumption) (by first | assumption | exact Or.inl rfl | exact Or.inr rfl)), ?_⟩
    exact h _ _ (by first | assumption | exact Or.inl rfl | exact Or.inr rfl | exact isB_or (by assumption) (by first | assumption | exact Or.inl rfl | exact Or.inr rfl)) (Fr.trans (Fr.trans (Fr.trans (Fr.trans (Fr.trans (Fr.rf) (Fr.up (by decide) hf253)) (Fr.up (by decide) hf255)) (Fr.up (by decide) hf258)) (Fr.up (by decide) hf259)) (Fr.up (by decide) hf261))
  · exact h _ _ (by first | assumption | exact Or.inl rfl | exact Or.inr rfl | exact isB_or (by assumption) (by first | assumption | exact Or.inl rfl | exact Or.inr rfl)) (Fr.trans (Fr.trans (Fr.rf) (Fr.up (by decide) hf253)) (Fr.up (by decide) hf255))
set_option maxHeartbeats 2000000 in
theorem f_X3_makeBy (k2 : Nat) (hk2 : kd k2 = 2) (k3 : Nat) (hk3 : kd k3 = 5) (μ : TMem) (a1 : Int32) {Q : Int32 → TMem → Prop} (h : ∀ (r : Int32) (μ9 : TMem), isB r → Fr 2 μ μ9 → Q r μ9) : wp_X3_makeBy k2 k3 μ a1 Q := by
  show (¬ a1 = (3 : Int32) → ((¬ a1 = (2 : Int32) → (wp_X3_makeOneWay k2 33 μ (fun (r4 : Int32) (μ3 : TMem) => (¬ r4 = 0 → (∀ J6 : TMem → Prop, (∀ (μ7 : TMem), (wp_X3_makeGroups 33 k3 μ7 (fun (μ8 : TMem) => Q (1 : Int32) μ8)) → J6 μ7) → ((¬ a1 = (1 : Int32) → (wp_X1_findByParting 33 μ3 (fun (μ10 : TMem) => J6 μ10))) ∧ (a1 = (1 : Int32) → (wp_X1_findByPairs 33 μ3 (fun (μ11 : TMem) => J6 μ11)))))) ∧ (r4 = 0 → (Q (0 : Int32) μ3))))) ∧ (a1 = (2 : Int32) → (wp_X3_makeByTurning k2 k3 μ (fun (r13 : Int32) (μ12 : TMem) => isB r13 ∧ Q r13 μ12))))) ∧ (a1 = (3 : Int32) → (wp_X3_makeOneWay k2 k3 μ (fun (r16 : Int32) (μ15 : TMem) => isB r16 ∧ Q r16 μ15)))
  refine ⟨fun c262 => ?_, fun c263 => ?_⟩
  · refine ⟨fun c264 => ?_, fun c265 => ?_⟩
    · refine f_X3_makeOneWay k2 hk2 33 rfl μ (fun r4 μ3 b266 hf267 => ?_)
      refine ⟨fun c268 => ?_, fun c269 => ?_⟩
      · intro J6 hJ6
        refine ⟨fun c270 => ?_, fun c271 => ?_⟩
        · refine f_X1_findByParting 33 rfl μ3 (fun μ10 hf272 => ?_)
          refine hJ6 μ10 ?_
          refine f_X3_makeGroups 33 rfl k3 hk3 μ10 (fun μ8 hf273 => ?_)
          exact h _ _ (by first | assumption | exact Or.inl rfl | exact Or.inr rfl | exact isB_or (by assumption) (by first | assumption | exact Or.inl rfl | exact Or.inr rfl)) (Fr.trans (Fr.trans (Fr.trans (Fr.rf) (Fr.up (by decide) hf267)) (Fr.up (by decide) hf272)) (Fr.up (by decide) hf273))
        · refine f_X1_findByPairs 33 rfl μ3 (fun μ11 hf274 => ?_)
          refine hJ6 μ11 ?_
          refine f_X3_makeGroups 33 rfl k3 hk3 μ11 (fun μ8 hf275 => ?_)
          exact h _ _ (by first | assumption | exact Or.inl rfl | exact Or.inr rfl | exact isB_or (by assumption) (by first | assumption | exact Or.inl rfl | exact Or.inr rfl)) (Fr.trans (Fr.trans (Fr.trans (Fr.rf) (Fr.up (by decide) hf267)) (Fr.up (by decide) hf274)) (Fr.up (by decide) hf275))
      · exact h _ _ (by first | assumption | exact Or.inl rfl | exact Or.inr rfl | exact isB_or (by assumption) (by first | assumption | exact Or.inl rfl | exact Or.inr rfl)) (Fr.trans (Fr.rf) (Fr.up (by decide) hf267))
    · refine f_X3_makeByTurning k2 hk2 k3 hk3 μ (fun r13 μ12 b276 hf277 => ?_)
      refine ⟨(by first | assumption | exact Or.inl rfl | exact Or.inr rfl | exact isB_or (by assumption) (by first | assumption | exact Or.inl rfl | exact Or.inr rfl)), ?_⟩
      exact h _ _ (by first | assumption | exact Or.inl rfl | exact Or.inr rfl | exact isB_or (by assumption) (by first | assumption | exact Or.inl rfl | exact Or.inr rfl)) (Fr.trans (Fr.rf) (Fr.up (by decide) hf277))
  · refine f_X3_makeOneWay k2 hk2 k3 hk3 μ (fun r16 μ15 b278 hf279 => ?_)
    refine ⟨(by first | assumption | exact Or.inl rfl | exact Or.inr rfl | exact isB_or (by assumption) (by first | assumption | exact Or.inl rfl | exact Or.inr rfl)), ?_⟩
    exact h _ _ (by first | assumption | exact Or.inl rfl | exact Or.inr rfl | exact isB_or (by assumption) (by first | assumption | exact Or.inl rfl | exact Or.inr rfl)) (Fr.trans (Fr.rf) (Fr.up (by decide) hf279))
set_option maxHeartbeats 2000000 in
theorem f_X5_isSameAs (k0 : Nat) (hk0 : kd k0 = 5) (k1 : Nat) (hk1 : kd k1 = 5) (μ : TMem)  {Q : Int32 → Prop} (h : ∀ r : Int32, isB r → Q r) : wp_X5_isSameAs k0 k1 μ Q := by
  show wp_X7_isSameTable k0 k1 μ (fun (r1 : Int32) => isB r1 ∧ Q r1)
  refine f_X7_isSameTable k0 (Or.inr hk0) k1 (Or.inr hk1) μ (fun r1 b280 => ?_)
  refine ⟨(by first | assumption | exact Or.inl rfl | exact Or.inr rfl | exact isB_or (by assumption) (by first | assumption | exact Or.inl rfl | exact Or.inr rfl)), ?_⟩
  exact h _ (by first | assumption | exact Or.inl rfl | exact Or.inr rfl | exact isB_or (by assumption) (by first | assumption | exact Or.inl rfl | exact Or.inr rfl))
set_option maxHeartbeats 2000000 in
theorem fl_wpl_X5_ledInto_15 (k0 : Nat) (hk0 : kd k0 = 5) (μ : TMem) (v8 : Int32) (v10 : Int32) {K47 : Int32 → Prop} (hK47 : ∀ (u0 : Int32), K47 u0) : ∀ (n : Nat) (v7 : Int32) (v9 : Int32), (((3 : Int32)).toInt - (v7).toInt).toNat < n → 0 ≤ (v7).toInt → wpl_X5_ledInto_15 k0 μ v8 v10 K47 n v7 v9 := by
  intro n
  induction n with
  | zero => intro v7 v9 hm; exact absurd hm (Nat.not_lt_zero _)
  | succ n ih =>
    intro v7 v9 hm hi
    show ((3 : Int32) ≤ v7 → (K47 v9)) ∧ (¬ (3 : Int32) ≤ v7 → (wp_X7_at k0 μ v8 v7 (fun (r12 : Int32) => wp_X9_isIn v10 r12 (fun (r15 : Int32) => (r15 = 0 → (wpl_X5_ledInto_15 k0 μ v8 v10 K47 n (v7 + (1 : Int32)) v9)) ∧ (¬ r15 = 0 → (wpl_X5_ledInto_15 k0 μ v8 v10 K47 n (v7 + (1 : Int32)) (v9 ||| ((1 : Int32) <<< (v8 &&& 31)))))))))
    refine ⟨fun c_ex => ?_, fun c_in => ?_⟩
    · exact hK47 v9
    have c_lt : ¬ ((3 : Int32)) ≤ v7 := c_in
    refine f_X7_at k0 (Or.inr hk0) μ v8 v7 (fun r12 => ?_)
    refine f_X9_isIn v10 r12 (fun r15 b281 => ?_)
    refine ⟨fun c282 => ?_, fun c283 => ?_⟩
    · exact ih (v7 + (1 : Int32)) v9 (lt_m c_lt (by omega)) (lt_p (by assumption) c_lt)
    · exact ih (v7 + (1 : Int32)) (v9 ||| ((1 : Int32) <<< (v8 &&& 31))) (lt_m c_lt (by omega)) (lt_p (by assumption) c_lt)
set_option maxHeartbeats 2000000 in
theorem fl_wpl_X5_ledInto_4 (k0 : Nat) (hk0 : kd k0 = 5) (μ : TMem) (v4 : Int32) {Q : Int32 → Prop} (h : ∀ r : Int32, Q r) : ∀ (n : Nat) (v2 : Int32) (v3 : Int32), (((μ k0 1)).toInt - (v2).toInt).toNat < n → 0 ≤ (v2).toInt → wpl_X5_ledInto_4 k0 μ v4 Q n v2 v3 := by
  intro n
  induction n with
  | zero => intro v2 v3 hm; exact absurd hm (Nat.not_lt_zero _)
  | succ n ih =>
    intro v2 v3 hm hi
    show ((μ k0 1) ≤ v2 → (Q v3)) ∧ (¬ (μ k0 1) ≤ v2 → (∃ n5x, wpl_X5_ledInto_15 k0 μ v2 v4 (fun (u18 : Int32) => wpl_X5_ledInto_4 k0 μ v4 Q n (v2 + (1 : Int32)) u18) n5x (0 : Int32) v3))
    refine ⟨fun c_ex => ?_, fun c_in => ?_⟩
    · exact h _
    have c_lt : ¬ ((μ k0 1)) ≤ v2 := c_in
    refine ⟨_, fl_wpl_X5_ledInto_15 k0 hk0 μ v2 v4 ?_ _ (0 : Int32) v3 (Nat.lt_succ_self _) (by first | decide | omega)⟩
    · intro u18
      exact ih (v2 + (1 : Int32)) u18 (lt_m c_lt (by omega)) (lt_p (by assumption) c_lt)
set_option maxHeartbeats 2000000 in
theorem f_X5_ledInto (k0 : Nat) (hk0 : kd k0 = 5) (μ : TMem) (a1 : Int32) {Q : Int32 → Prop} (h : ∀ r : Int32, Q r) : wp_X5_ledInto k0 μ a1 Q := by
  show ∃ n0x, wpl_X5_ledInto_4 k0 μ a1 Q n0x (0 : Int32) (0 : Int32)
  refine ⟨_, fl_wpl_X5_ledInto_4 k0 hk0 μ a1 h _ (0 : Int32) (0 : Int32) (Nat.lt_succ_self _) (by first | decide | omega)⟩
set_option maxHeartbeats 2000000 in
theorem fl_wpl_X5_isTakingLongOnes_7 (k0 : Nat) (hk0 : kd k0 = 5) (μ : TMem) {Q : Int32 → Prop} (h : ∀ r : Int32, isB r → Q r) : ∀ (n : Nat) (v2 : Int32) (v3 : Int32), ((((2 : Int32) * (μ k0 1))).toInt - (v2).toInt).toNat < n → 0 ≤ (v2).toInt → wpl_X5_isTakingLongOnes_7 k0 μ Q n v2 v3 := by
  intro n
  induction n with
  | zero => intro v2 v3 hm; exact absurd hm (Nat.not_lt_zero _)
  | succ n ih =>
    intro v2 v3 hm hi
    show (((2 : Int32) * (μ k0 1)) ≤ v2 → (Q (0 : Int32))) ∧ (¬ ((2 : Int32) * (μ k0 1)) ≤ v2 → (wp_X5_ledInto k0 μ v3 (fun (r5 : Int32) => (v2 < (μ k0 1) → (wpl_X5_isTakingLongOnes_7 k0 μ Q n (v2 + (1 : Int32)) r5)) ∧ (¬ v2 < (μ k0 1) → (wp_X9_isIn r5 (0 : Int32) (fun (r9 : Int32) => (r9 = 0 → (wpl_X5_isTakingLongOnes_7 k0 μ Q n (v2 + (1 : Int32)) r5)) ∧ (¬ r9 = 0 → (Q (1 : Int32)))))))))
    refine ⟨fun c_ex => ?_, fun c_in => ?_⟩
    · exact h _ (by first | assumption | exact Or.inl rfl | exact Or.inr rfl | exact isB_or (by assumption) (by first | assumption | exact Or.inl rfl | exact Or.inr rfl))
    have c_lt : ¬ (((2 : Int32) * (μ k0 1))) ≤ v2 := c_in
    refine f_X5_ledInto k0 hk0 μ v3 (fun r5 => ?_)
    refine ⟨fun c284 => ?_, fun c285 => ?_⟩
    · exact ih (v2 + (1 : Int32)) r5 (lt_m c_lt (by omega)) (lt_p (by assumption) c_lt)
    · refine f_X9_isIn r5 (0 : Int32) (fun r9 b286 => ?_)
      refine ⟨fun c287 => ?_, fun c288 => ?_⟩
      · exact ih (v2 + (1 : Int32)) r5 (lt_m c_lt (by omega)) (lt_p (by assumption) c_lt)
      · exact h _ (by first | assumption | exact Or.inl rfl | exact Or.inr rfl | exact isB_or (by assumption) (by first | assumption | exact Or.inl rfl | exact Or.inr rfl))
set_option maxHeartbeats 2000000 in
theorem f_X5_isTakingLongOnes (k0 : Nat) (hk0 : kd k0 = 5) (μ : TMem)  {Q : Int32 → Prop} (h : ∀ r : Int32, isB r → Q r) : wp_X5_isTakingLongOnes k0 μ Q := by
  show ∃ n0x, wpl_X5_isTakingLongOnes_7 k0 μ Q n0x (1 : Int32) (μ k0 2)
  refine ⟨_, fl_wpl_X5_isTakingLongOnes_7 k0 hk0 μ h _ (1 : Int32) (μ k0 2) (Nat.lt_succ_self _) (by first | decide | omega)⟩
set_option maxHeartbeats 2000000 in
theorem f_X8_from (μ : TMem) (a1 : Int32) (a2 : Int32) {Q : Int32 → Prop} (h : ∀ r : Int32, Q r) : wp_X8_from μ a1 a2 Q := by
  show wp_X6_at 49 μ ((a2 * (32 : Int32)) + a1) (fun (r1 : Int32) => Q r1)
  refine f_X6_at 49 rfl μ ((a2 * (32 : Int32)) + a1) (fun r1 => ?_)
  exact h _
set_option maxHeartbeats 2000000 in
theorem fl_wpl_X8_sumOver_6 (k1 : Nat) (hk1 : kd k1 = 5) (μ : TMem) (v4 : Int32) (v5 : Int32) {Q : Int32 → Prop} (h : ∀ r : Int32, Q r) : ∀ (n : Nat) (v2 : Int32) (v3 : Int32), (((3 : Int32)).toInt - (v2).toInt).toNat < n → 0 ≤ (v2).toInt → wpl_X8_sumOver_6 k1 μ v4 v5 Q n v2 v3 := by
  intro n
  induction n with
  | zero => intro v2 v3 hm; exact absurd hm (Nat.not_lt_zero _)
  | succ n ih =>
    intro v2 v3 hm hi
    show ((3 : Int32) ≤ v2 → (Q v3)) ∧ (¬ (3 : Int32) ≤ v2 → (wp_X7_at k1 μ v4 v2 (fun (r7 : Int32) => wp_X8_from μ r7 v5 (fun (r10 : Int32) => wpl_X8_sumOver_6 k1 μ v4 v5 Q n (v2 + (1 : Int32)) (v3 + r10)))))
    refine ⟨fun c_ex => ?_, fun c_in => ?_⟩
    · exact h _
    have c_lt : ¬ ((3 : Int32)) ≤ v2 := c_in
    refine f_X7_at k1 (Or.inr hk1) μ v4 v2 (fun r7 => ?_)
    refine f_X8_from μ r7 v5 (fun r10 => ?_)
    exact ih (v2 + (1 : Int32)) (v3 + r10) (lt_m c_lt (by omega)) (lt_p (by assumption) c_lt)
set_option maxHeartbeats 2000000 in
theorem f_X8_sumOver (k1 : Nat) (hk1 : kd k1 = 5) (μ : TMem) (a2 : Int32) (a3 : Int32) {Q : Int32 → Prop} (h : ∀ r : Int32, Q r) : wp_X8_sumOver k1 μ a2 a3 Q := by
  show ∃ n0x, wpl_X8_sumOver_6 k1 μ a2 a3 Q n0x (0 : Int32) (0 : Int32)
  refine ⟨_, fl_wpl_X8_sumOver_6 k1 hk1 μ a2 a3 h _ (0 : Int32) (0 : Int32) (Nat.lt_succ_self _) (by first | decide | omega)⟩
set_option maxHeartbeats 2000000 in
theorem fl_wpl_X8_count_2 (μ0 : TMem) (k1 : Nat) (hk1 : kd k1 = 5) {K37 : TMem → Prop} (hK37 : ∀ (u0 : TMem), Fr 0 μ0 u0 → K37 u0) : ∀ (n : Nat) (v2 : Int32) (μ3 : TMem), (((μ0 k1 1)).toInt - (v2).toInt).toNat < n → 0 ≤ (v2).toInt → Fr 0 μ0 μ3 → wpl_X8_count_2 k1 K37 n v2 μ3 := by
  intro n
  induction n with
  | zero => intro v2 μ3 hm; exact absurd hm (Nat.not_lt_zero _)
  | succ n ih =>
    intro v2 μ3 hm hi hF
    show ((μ3 k1 1) ≤ v2 → (K37 μ3)) ∧ (¬ (μ3 k1 1) ≤ v2 → (wp_X5_isGoal k1 μ3 v2 (fun (r5 : Int32) => ∀ J8 : Int32 → Prop, (∀ (j9 : Int32), (wp_X6_put 49 μ3 v2 j9 (fun (μ10 : TMem) => wpl_X8_count_2 k1 K37 n (v2 + (1 : Int32)) μ10)) → J8 j9) → ((r5 = 0 → (J8 (0 : Int32))) ∧ (¬ r5 = 0 → (J8 (1 : Int32)))))))
    refine ⟨fun c_ex => ?_, fun c_in => ?_⟩
    · exact hK37 μ3 hF
    have e_k1_1 : μ3 k1 1 = μ0 k1 1 := hF.1 k1 1 (by rw [show kd k1 = 5 from hk1] <;> rfl)
    have c_lt : ¬ ((μ0 k1 1)) ≤ v2 := by
      rw [e_k1_1] at c_in
      exact c_in
    refine f_X5_isGoal k1 hk1 μ3 v2 (fun r5 b289 => ?_)
    intro J8 hJ8
    refine ⟨fun c290 => ?_, fun c291 => ?_⟩
    · refine hJ8 (0 : Int32) ?_
      refine f_X6_put 49 rfl μ3 v2 (0 : Int32) (Or.inl (by decide)) (fun μ10 hf292 => ?_)
      exact ih (v2 + (1 : Int32)) μ10 (lt_m c_lt (by omega)) (lt_p (by assumption) c_lt) (Fr.trans hF (Fr.up (by decide) hf292))
    · refine hJ8 (1 : Int32) ?_
      refine f_X6_put 49 rfl μ3 v2 (1 : Int32) (Or.inl (by decide)) (fun μ10 hf293 => ?_)
      exact ih (v2 + (1 : Int32)) μ10 (lt_m c_lt (by omega)) (lt_p (by assumption) c_lt) (Fr.trans hF (Fr.up (by decide) hf293))
set_option maxHeartbeats 2000000 in
theorem fl_wpl_X8_count_47 (μ0 : TMem) (k1 : Nat) (hk1 : kd k1 = 5) (v20 : Int32) {K83 : TMem → Prop} (hK83 : ∀ (u0 : TMem), Fr 0 μ0 u0 → K83 u0) : ∀ (n : Nat) (v19 : Int32) (μ21 : TMem), (((μ0 k1 1)).toInt - (v19).toInt).toNat < n → 0 ≤ (v19).toInt → Fr 0 μ0 μ21 → wpl_X8_count_47 k1 v20 K83 n v19 μ21 := by
  intro n
  induction n with
  | zero => intro v19 μ21 hm; exact absurd hm (Nat.not_lt_zero _)
  | succ n ih =>
    intro v19 μ21 hm hi hF
    show ((μ21 k1 1) ≤ v19 → (K83 μ21)) ∧ (¬ (μ21 k1 1) ≤ v19 → (wp_X8_sumOver k1 μ21 v19 (v20 - (1 : Int32)) (fun (r23 : Int32) => wp_X6_put 49 μ21 ((v20 * (32 : Int32)) + v19) r23 (fun (μ26 : TMem) => wpl_X8_count_47 k1 v20 K83 n (v19 + (1 : Int32)) μ26))))
    refine ⟨fun c_ex => ?_, fun c_in => ?_⟩
    · exact hK83 μ21 hF
    have e_k1_1 : μ21 k1 1 = μ0 k1 1 := hF.1 k1 1 (by rw [show kd k1 = 5 from hk1] <;> rfl)
    have c_lt : ¬ ((μ0 k1 1)) ≤ v19 := by
      rw [e_k1_1] at c_in
      exact c_in
    refine f_X8_sumOver k1 hk1 μ21 v19 (v20 - (1 : Int32)) (fun r23 => ?_)
    refine f_X6_put 49 rfl μ21 ((v20 * (32 : Int32)) + v19) r23 (Or.inl (by decide)) (fun μ26 hf294 => ?_)
    exact ih (v19 + (1 : Int32)) μ26 (lt_m c_lt (by omega)) (lt_p (by assumption) c_lt) (Fr.trans hF (Fr.up (by decide) hf294))
set_option maxHeartbeats 2000000 in
theorem fl_wpl_X8_count_39 (μ0 : TMem) (k1 : Nat) (hk1 : kd k1 = 5) {Q : TMem → Prop} (h : ∀ μ9 : TMem, Fr 0 μ0 μ9 → Q μ9) : ∀ (n : Nat) (v15 : Int32) (μ16 : TMem), (((12 : Int32)).toInt + 1 - (v15).toInt).toNat < n → 0 ≤ (v15).toInt → Fr 0 μ0 μ16 → wpl_X8_count_39 k1 Q n v15 μ16 := by
  intro n
  induction n with
  | zero => intro v15 μ16 hm; exact absurd hm (Nat.not_lt_zero _)
  | succ n ih =>
    intro v15 μ16 hm hi hF
    show ((12 : Int32) < v15 → (Q μ16)) ∧ (¬ (12 : Int32) < v15 → (∃ n17x, wpl_X8_count_47 k1 v15 (fun (μ28 : TMem) => wpl_X8_count_39 k1 Q n (v15 + (1 : Int32)) μ28) n17x (0 : Int32) μ16))
    refine ⟨fun c_ex => ?_, fun c_in => ?_⟩
    · exact h _ hF
    have c_lt : ¬ ((12 : Int32)) < v15 := c_in
    refine ⟨_, fl_wpl_X8_count_47 μ16 k1 hk1 v15 ?_ _ (0 : Int32) μ16 (Nat.lt_succ_self _) (by first | decide | omega) Fr.rf⟩
    · intro μ28 hf295
      exact ih (v15 + (1 : Int32)) μ28 (lt_ms c_lt (by decide) (by omega)) (lt_ps (by assumption) c_lt (by decide)) (Fr.trans hF (Fr.up (by decide) hf295))
set_option maxHeartbeats 2000000 in
theorem f_X8_count (k1 : Nat) (hk1 : kd k1 = 5) (μ : TMem)  {Q : TMem → Prop} (h : ∀ μ9 : TMem, Fr 0 μ μ9 → Q μ9) : wp_X8_count k1 μ Q := by
  show ∃ n0x, wpl_X8_count_2 k1 (fun (μ13 : TMem) => ∃ n13x, wpl_X8_count_39 k1 Q n13x (1 : Int32) μ13) n0x (0 : Int32) μ
  refine ⟨_, fl_wpl_X8_count_2 μ k1 hk1 ?_ _ (0 : Int32) μ (Nat.lt_succ_self _) (by first | decide | omega) Fr.rf⟩
  · intro μ13 hf296
    refine ⟨_, fl_wpl_X8_count_39 μ13 k1 hk1 (fun μ9 f9 => h μ9 (Fr.trans (Fr.trans (Fr.rf) (Fr.up (by decide) hf296)) (Fr.up (by decide) f9))) _ (1 : Int32) μ13 (Nat.lt_succ_self _) (by first | decide | omega) Fr.rf⟩
set_option maxHeartbeats 2000000 in
theorem f_X9_machineAt (μ : TMem) (a1 : Int32) {Q : Nat → TMem → Prop} {X : String → TMem → Prop} (h : ∀ (r : Nat) (μ9 : TMem), kd r = 2 → Fr 0 μ μ9 → Q r μ9) (hX : ∀ (E : String) (μ9 : TMem), E ∈ ex_I → Fr 0 μ μ9 → X E μ9) : wp_X9_machineAt μ a1 Q X := by
  show (a1 < 0 → (X "java/lang/IndexOutOfBoundsException" μ)) ∧ (¬ a1 < 0 → ((a1 < (4 : Int32) → (vp_in a1 4 ∧ (Q (2 + 2 * a1.toNatClampNeg) μ))) ∧ (¬ a1 < (4 : Int32) → (X "java/lang/IndexOutOfBoundsException" μ))))
  refine ⟨fun c297 => ?_, fun c298 => ?_⟩
  · exact hX _ _ (by decide) (Fr.rf)
  · refine ⟨fun c299 => ?_, fun c300 => ?_⟩
    · have hv301 : vp_in a1 4 := (by first | exact vp_a (by assumption) (by assumption) (tl_s _) | exact vp_b (by assumption) (by assumption) (tl_s _) | exact vp_a (n := 4) (by assumption) (by assumption) (by decide) | exact vp_b (n := 4) (by assumption) (by assumption) (by decide) | exact vp_c (by assumption) (by assumption))
      refine ⟨hv301, ?_⟩
      exact h _ _ (kd_ma _ (vp_lt (by assumption))) (Fr.rf)
    · exact hX _ _ (by decide) (Fr.rf)
set_option maxHeartbeats 2000000 in
theorem f_X9_checkRange (μ : TMem) (a0 : Int32) (a1 : Int32) (a2 : Int32) {Q : TMem → Prop} {X : String → TMem → Prop} (h : ∀ μ9 : TMem, Fr 0 μ μ9 → Q μ9) (hX : ∀ (E : String) (μ9 : TMem), E ∈ ex_A → Fr 0 μ μ9 → X E μ9) : wp_X9_checkRange μ a0 a1 a2 Q X := by
  show (a0 < a1 → (X "java/lang/IllegalArgumentException" μ)) ∧ (¬ a0 < a1 → ((a0 ≤ a2 → (Q μ)) ∧ (¬ a0 ≤ a2 → (X "java/lang/IllegalArgumentException" μ))))
  refine ⟨fun c302 => ?_, fun c303 => ?_⟩
  · exact hX _ _ (by decide) (Fr.rf)
  · refine ⟨fun c304 => ?_, fun c305 => ?_⟩
    · exact h _ (Fr.rf)
    · exact hX _ _ (by decide) (Fr.rf)
set_option maxHeartbeats 2000000 in
theorem f_X9_begin (μ : TMem) (a1 : Int32) (a2 : Int32) {Q : Int32 → TMem → Prop} {X : String → TMem → Prop} (h : ∀ (r : Int32) (μ9 : TMem), Fr 3 μ μ9 → Q r μ9) (hX : ∀ (E : String) (μ9 : TMem), E ∈ ex_IA → Fr 3 μ μ9 → X E μ9) : wp_X9_begin μ a1 a2 Q X := by
  show wp_X9_machineAt μ a1 (fun (k2 : Nat) (μ1 : TMem) => wp_X9_checkRange μ1 a2 (1 : Int32) (7 : Int32) (fun (μ3 : TMem) => wp_X2_countArrows k2 μ3 (fun (r4 : Int32) => wp_X2_clear k2 μ3 a2 (fun (μ7 : TMem) => wp_X9_acted μ7 r4 (fun (r9 : Int32) (μ8 : TMem) => Q r9 μ8)))) X) X
  refine f_X9_machineAt μ a1 (fun k2 μ1 hk306 hf307 => ?_) (fun E9 μ9 e9 f9 => hX E9 μ9 (ex_sub (by decide) e9) (Fr.trans (Fr.rf) (Fr.up (by decide) f9)))
  refine f_X9_checkRange μ1 a2 (1 : Int32) (7 : Int32) (fun μ3 hf308 => ?_) (fun E9 μ9 e9 f9 => hX E9 μ9 (ex_sub (by decide) e9) (Fr.trans (Fr.trans (Fr.rf) (Fr.up (by decide) hf307)) (Fr.up (by decide) f9)))
  refine f_X2_countArrows k2 hk306 μ3 (fun r4 => ?_)
  refine f_X2_clear k2 hk306 μ3 a2 (fun μ7 hf309 => ?_)
  refine f_X9_acted μ7 r4 (fun r9 μ8 hf310 => ?_)
  exact h _ _ (Fr.trans (Fr.trans (Fr.trans (Fr.trans (Fr.rf) (Fr.up (by decide) hf307)) (Fr.up (by decide) hf308)) (Fr.up (by decide) hf309)) (Fr.up (by decide) hf310))
set_option maxHeartbeats 2000000 in
theorem f_X9_checkState (k0 : Nat) (hk0 : kd k0 = 2) (μ : TMem) (a1 : Int32) {Q : TMem → Prop} {X : String → TMem → Prop} (h : ∀ μ9 : TMem, Fr 0 μ μ9 → Q μ9) (hX : ∀ (E : String) (μ9 : TMem), E ∈ ex_I → Fr 0 μ μ9 → X E μ9) : wp_X9_checkState k0 μ a1 Q X := by
  show (a1 < 0 → (X "java/lang/IndexOutOfBoundsException" μ)) ∧ (¬ a1 < 0 → ((a1 < (μ k0 1) → (Q μ)) ∧ (¬ a1 < (μ k0 1) → (X "java/lang/IndexOutOfBoundsException" μ))))
  refine ⟨fun c311 => ?_, fun c312 => ?_⟩
  · exact hX _ _ (by decide) (Fr.rf)
  · refine ⟨fun c313 => ?_, fun c314 => ?_⟩
    · exact h _ (Fr.rf)
    · exact hX _ _ (by decide) (Fr.rf)
set_option maxHeartbeats 2000000 in
theorem f_X9_checkSign (μ : TMem) (a0 : Int32) {Q : TMem → Prop} {X : String → TMem → Prop} (h : ∀ μ9 : TMem, Fr 0 μ μ9 → Q μ9) (hX : ∀ (E : String) (μ9 : TMem), E ∈ ex_A → Fr 0 μ μ9 → X E μ9) : wp_X9_checkSign μ a0 Q X := by
  show wp_X9_checkRange μ a0 (0 : Int32) (2 : Int32) (fun (μ1 : TMem) => Q μ1) X
  refine f_X9_checkRange μ a0 (0 : Int32) (2 : Int32) (fun μ1 hf315 => ?_) (fun E9 μ9 e9 f9 => hX E9 μ9 e9 (Fr.trans (Fr.rf) (Fr.up (by decide) f9)))
  exact h _ (Fr.trans (Fr.rf) (Fr.up (by decide) hf315))
set_option maxHeartbeats 2000000 in
theorem f_X9_arrow (μ : TMem) (a1 : Int32) (a2 : Int32) (a3 : Int32) (a4 : Int32) (a5 : Int32) {Q : Int32 → TMem → Prop} {X : String → TMem → Prop} (h : ∀ (r : Int32) (μ9 : TMem), Fr 3 μ μ9 → Q r μ9) (hX : ∀ (E : String) (μ9 : TMem), E ∈ ex_IA → Fr 3 μ μ9 → X E μ9) : wp_X9_arrow μ a1 a2 a3 a4 a5 Q X := by
  show wp_X9_machineAt μ a1 (fun (k2 : Nat) (μ1 : TMem) => wp_X9_checkState k2 μ1 a2 (fun (μ3 : TMem) => wp_X9_checkState k2 μ3 a4 (fun (μ4 : TMem) => wp_X9_checkSign μ4 a3 (fun (μ5 : TMem) => wp_X7_at k2 μ5 a2 a3 (fun (r6 : Int32) => wp_X9_withOrWithout r6 a4 a5 (fun (r9 : Int32) => wp_X7_put k2 μ5 a2 a3 r9 (fun (μ10 : TMem) => (r9 = r6 → (wp_X9_acted μ10 (0 : Int32) (fun (r13 : Int32) (μ12 : TMem) => Q r13 μ12))) ∧ (¬ r9 = r6 → (wp_X9_acted μ10 (1 : Int32) (fun (r15 : Int32) (μ14 : TMem) => Q r15 μ14))))))) X) X) X) X
  refine f_X9_machineAt μ a1 (fun k2 μ1 hk316 hf317 => ?_) (fun E9 μ9 e9 f9 => hX E9 μ9 (ex_sub (by decide) e9) (Fr.trans (Fr.rf) (Fr.up (by decide) f9)))
  refine f_X9_checkState k2 hk316 μ1 a2 (fun μ3 hf318 => ?_) (fun E9 μ9 e9 f9 => hX E9 μ9 (ex_sub (by decide) e9) (Fr.trans (Fr.trans (Fr.rf) (Fr.up (by decide) hf317)) (Fr.up (by decide) f9)))
  refine f_X9_checkState k2 hk316 μ3 a4 (fun μ4 hf319 => ?_) (fun E9 μ9 e9 f9 => hX E9 μ9 (ex_sub (by decide) e9) (Fr.trans (Fr.trans (Fr.trans (Fr.rf) (Fr.up (by decide) hf317)) (Fr.up (by decide) hf318)) (Fr.up (by decide) f9)))
  refine f_X9_checkSign μ4 a3 (fun μ5 hf320 => ?_) (fun E9 μ9 e9 f9 => hX E9 μ9 (ex_sub (by decide) e9) (Fr.trans (Fr.trans (Fr.trans (Fr.trans (Fr.rf) (Fr.up (by decide) hf317)) (Fr.up (by decide) hf318)) (Fr.up (by decide) hf319)) (Fr.up (by decide) f9)))
  refine f_X7_at k2 (Or.inl hk316) μ5 a2 a3 (fun r6 => ?_)
  refine f_X9_withOrWithout r6 a4 a5 (fun r9 => ?_)
  refine f_X7_put k2 (Or.inl hk316) μ5 a2 a3 r9 (fun μ10 hf321 => ?_)
  refine ⟨fun c322 => ?_, fun c323 => ?_⟩
  · refine f_X9_acted μ10 (0 : Int32) (fun r13 μ12 hf324 => ?_)
    exact h _ _ (Fr.trans (Fr.trans (Fr.trans (Fr.trans (Fr.trans (Fr.trans (Fr.rf) (Fr.up (by decide) hf317)) (Fr.up (by decide) hf318)) (Fr.up (by decide) hf319)) (Fr.up (by decide) hf320)) (Fr.up (by decide) hf321)) (Fr.up (by decide) hf324))
  · refine f_X9_acted μ10 (1 : Int32) (fun r15 μ14 hf325 => ?_)
    exact h _ _ (Fr.trans (Fr.trans (Fr.trans (Fr.trans (Fr.trans (Fr.trans (Fr.rf) (Fr.up (by decide) hf317)) (Fr.up (by decide) hf318)) (Fr.up (by decide) hf319)) (Fr.up (by decide) hf320)) (Fr.up (by decide) hf321)) (Fr.up (by decide) hf325))
set_option maxHeartbeats 2000000 in
theorem f_X9_lead (μ : TMem) (a1 : Int32) (a2 : Int32) (a3 : Int32) (a4 : Int32) {Q : Int32 → TMem → Prop} {X : String → TMem → Prop} (h : ∀ (r : Int32) (μ9 : TMem), Fr 3 μ μ9 → Q r μ9) (hX : ∀ (E : String) (μ9 : TMem), E ∈ ex_IA → Fr 3 μ μ9 → X E μ9) : wp_X9_lead μ a1 a2 a3 a4 Q X := by
  show wp_X9_machineAt μ a1 (fun (k2 : Nat) (μ1 : TMem) => wp_X9_checkState k2 μ1 a2 (fun (μ3 : TMem) => wp_X9_checkState k2 μ3 a4 (fun (μ4 : TMem) => wp_X9_checkSign μ4 a3 (fun (μ5 : TMem) => wp_X7_at k2 μ5 a2 a3 (fun (r6 : Int32) => wp_X7_put k2 μ5 a2 a3 ((1 : Int32) <<< (a4 &&& 31)) (fun (μ9 : TMem) => wp_J6_bitCount_0f7a4 r6 (fun (r10 : Int32) => wp_X9_acted μ9 r10 (fun (r12 : Int32) (μ11 : TMem) => Q r12 μ11))))) X) X) X) X
  refine f_X9_machineAt μ a1 (fun k2 μ1 hk326 hf327 => ?_) (fun E9 μ9 e9 f9 => hX E9 μ9 (ex_sub (by decide) e9) (Fr.trans (Fr.rf) (Fr.up (by decide) f9)))
  refine f_X9_checkState k2 hk326 μ1 a2 (fun μ3 hf328 => ?_) (fun E9 μ9 e9 f9 => hX E9 μ9 (ex_sub (by decide) e9) (Fr.trans (Fr.trans (Fr.rf) (Fr.up (by decide) hf327)) (Fr.up (by decide) f9)))
  refine f_X9_checkState k2 hk326 μ3 a4 (fun μ4 hf329 => ?_) (fun E9 μ9 e9 f9 => hX E9 μ9 (ex_sub (by decide) e9) (Fr.trans (Fr.trans (Fr.trans (Fr.rf) (Fr.up (by decide) hf327)) (Fr.up (by decide) hf328)) (Fr.up (by decide) f9)))
  refine f_X9_checkSign μ4 a3 (fun μ5 hf330 => ?_) (fun E9 μ9 e9 f9 => hX E9 μ9 (ex_sub (by decide) e9) (Fr.trans (Fr.trans (Fr.trans (Fr.trans (Fr.rf) (Fr.up (by decide) hf327)) (Fr.up (by decide) hf328)) (Fr.up (by decide) hf329)) (Fr.up (by decide) f9)))
  refine f_X7_at k2 (Or.inl hk326) μ5 a2 a3 (fun r6 => ?_)
  refine f_X7_put k2 (Or.inl hk326) μ5 a2 a3 ((1 : Int32) <<< (a4 &&& 31)) (fun μ9 hf331 => ?_)
  refine f_J6_bitCount_0f7a4 r6 (fun r10 => ?_)
  refine f_X9_acted μ9 r10 (fun r12 μ11 hf332 => ?_)
  exact h _ _ (Fr.trans (Fr.trans (Fr.trans (Fr.trans (Fr.trans (Fr.trans (Fr.rf) (Fr.up (by decide) hf327)) (Fr.up (by decide) hf328)) (Fr.up (by decide) hf329)) (Fr.up (by decide) hf330)) (Fr.up (by decide) hf331)) (Fr.up (by decide) hf332))
set_option maxHeartbeats 2000000 in
theorem f_X9_mark (μ : TMem) (a1 : Int32) (a2 : Int32) (a3 : Int32) (a4 : Int32) {Q : Int32 → TMem → Prop} {X : String → TMem → Prop} (h : ∀ (r : Int32) (μ9 : TMem), Fr 3 μ μ9 → Q r μ9) (hX : ∀ (E : String) (μ9 : TMem), E ∈ ex_I → Fr 3 μ μ9 → X E μ9) : wp_X9_mark μ a1 a2 a3 a4 Q X := by
  show wp_X9_machineAt μ a1 (fun (k2 : Nat) (μ1 : TMem) => wp_X9_checkState k2 μ1 a2 (fun (μ3 : TMem) => (a3 = 0 → (wp_X9_withOrWithout (μ3 k2 3) a2 a4 (fun (r5 : Int32) => (a3 = 0 → ((r5 = (μ3 k2 3) → (wp_X9_acted (tms μ3 k2 3 r5) (0 : Int32) (fun (r9 : Int32) (μ8 : TMem) => Q r9 μ8))) ∧ (¬ r5 = (μ3 k2 3) → (wp_X9_acted (tms μ3 k2 3 r5) (1 : Int32) (fun (r11 : Int32) (μ10 : TMem) => Q r11 μ10))))) ∧ (¬ a3 = 0 → ((r5 = (μ3 k2 3) → (wp_X9_acted (tms μ3 k2 2 r5) (0 : Int32) (fun (r14 : Int32) (μ13 : TMem) => Q r14 μ13))) ∧ (¬ r5 = (μ3 k2 3) → (wp_X9_acted (tms μ3 k2 2 r5) (1 : Int32) (fun (r16 : Int32) (μ15 : TMem) => Q r16 μ15)))))))) ∧ (¬ a3 = 0 → (wp_X9_withOrWithout (μ3 k2 2) a2 a4 (fun (r17 : Int32) => (a3 = 0 → ((r17 = (μ3 k2 2) → (wp_X9_acted (tms μ3 k2 3 r17) (0 : Int32) (fun (r21 : Int32) (μ20 : TMem) => Q r21 μ20))) ∧ (¬ r17 = (μ3 k2 2) → (wp_X9_acted (tms μ3 k2 3 r17) (1 : Int32) (fun (r23 : Int32) (μ22 : TMem) => Q r23 μ22))))) ∧ (¬ a3 = 0 → ((r17 = (μ3 k2 2) → (wp_X9_acted (tms μ3 k2 2 r17) (0 : Int32) (fun (r26 : Int32) (μ25 : TMem) => Q r26 μ25))) ∧ (¬ r17 = (μ3 k2 2) → (wp_X9_acted (tms μ3 k2 2 r17) (1 : Int32) (fun (r28 : Int32) (μ27 : TMem) => Q r28 μ27))))))))) X) X
  refine f_X9_machineAt μ a1 (fun k2 μ1 hk333 hf334 => ?_) (fun E9 μ9 e9 f9 => hX E9 μ9 e9 (Fr.trans (Fr.rf) (Fr.up (by decide) f9)))
  refine f_X9_checkState k2 hk333 μ1 a2 (fun μ3 hf335 => ?_) (fun E9 μ9 e9 f9 => hX E9 μ9 e9 (Fr.trans (Fr.trans (Fr.rf) (Fr.up (by decide) hf334)) (Fr.up (by decide) f9)))
  refine ⟨fun c336 => ?_, fun c337 => ?_⟩
  · refine f_X9_withOrWithout (μ3 k2 3) a2 a4 (fun r5 => ?_)
    refine ⟨fun c338 => ?_, fun c339 => ?_⟩
    · refine ⟨fun c340 => ?_, fun c341 => ?_⟩
      · refine f_X9_acted (tms μ3 k2 3 r5) (0 : Int32) (fun r9 μ8 hf342 => ?_)
        exact h _ _ (Fr.trans (Fr.st (Fr.trans (Fr.trans (Fr.rf) (Fr.up (by decide) hf334)) (Fr.up (by decide) hf335)) (by rw [show kd k2 = 2 from hk333] <;> rfl) (Or.inl (ne43 (K := 2) hk333 (by decide)))) (Fr.up (by decide) hf342))
      · refine f_X9_acted (tms μ3 k2 3 r5) (1 : Int32) (fun r11 μ10 hf343 => ?_)
        exact h _ _ (Fr.trans (Fr.st (Fr.trans (Fr.trans (Fr.rf) (Fr.up (by decide) hf334)) (Fr.up (by decide) hf335)) (by rw [show kd k2 = 2 from hk333] <;> rfl) (Or.inl (ne43 (K := 2) hk333 (by decide)))) (Fr.up (by decide) hf343))
    · refine ⟨fun c344 => ?_, fun c345 => ?_⟩
      · refine f_X9_acted (tms μ3 k2 2 r5) (0 : Int32) (fun r14 μ13 hf346 => ?_)
        exact h _ _ (Fr.trans (Fr.st (Fr.trans (Fr.trans (Fr.rf) (Fr.up (by decide) hf334)) (Fr.up (by decide) hf335)) (by rw [show kd k2 = 2 from hk333] <;> rfl) (Or.inl (ne43 (K := 2) hk333 (by decide)))) (Fr.up (by decide) hf346))
      · refine f_X9_acted (tms μ3 k2 2 r5) (1 : Int32) (fun r16 μ15 hf347 => ?_)
        exact h _ _ (Fr.trans (Fr.st (Fr.trans (Fr.trans (Fr.rf) (Fr.up (by decide) hf334)) (Fr.up (by decide) hf335)) (by rw [show kd k2 = 2 from hk333] <;> rfl) (Or.inl (ne43 (K := 2) hk333 (by decide)))) (Fr.up (by decide) hf347))
  · refine f_X9_withOrWithout (μ3 k2 2) a2 a4 (fun r17 => ?_)
    refine ⟨fun c348 => ?_, fun c349 => ?_⟩
    · refine ⟨fun c350 => ?_, fun c351 => ?_⟩
      · refine f_X9_acted (tms μ3 k2 3 r17) (0 : Int32) (fun r21 μ20 hf352 => ?_)
        exact h _ _ (Fr.trans (Fr.st (Fr.trans (Fr.trans (Fr.rf) (Fr.up (by decide) hf334)) (Fr.up (by decide) hf335)) (by rw [show kd k2 = 2 from hk333] <;> rfl) (Or.inl (ne43 (K := 2) hk333 (by decide)))) (Fr.up (by decide) hf352))
      · refine f_X9_acted (tms μ3 k2 3 r17) (1 : Int32) (fun r23 μ22 hf353 => ?_)
        exact h _ _ (Fr.trans (Fr.st (Fr.trans (Fr.trans (Fr.rf) (Fr.up (by decide) hf334)) (Fr.up (by decide) hf335)) (by rw [show kd k2 = 2 from hk333] <;> rfl) (Or.inl (ne43 (K := 2) hk333 (by decide)))) (Fr.up (by decide) hf353))
    · refine ⟨fun c354 => ?_, fun c355 => ?_⟩
      · refine f_X9_acted (tms μ3 k2 2 r17) (0 : Int32) (fun r26 μ25 hf356 => ?_)
        exact h _ _ (Fr.trans (Fr.st (Fr.trans (Fr.trans (Fr.rf) (Fr.up (by decide) hf334)) (Fr.up (by decide) hf335)) (by rw [show kd k2 = 2 from hk333] <;> rfl) (Or.inl (ne43 (K := 2) hk333 (by decide)))) (Fr.up (by decide) hf356))
      · refine f_X9_acted (tms μ3 k2 2 r17) (1 : Int32) (fun r28 μ27 hf357 => ?_)
        exact h _ _ (Fr.trans (Fr.st (Fr.trans (Fr.trans (Fr.rf) (Fr.up (by decide) hf334)) (Fr.up (by decide) hf335)) (by rw [show kd k2 = 2 from hk333] <;> rfl) (Or.inl (ne43 (K := 2) hk333 (by decide)))) (Fr.up (by decide) hf357))
set_option maxHeartbeats 2000000 in
theorem f_X9_sow (μ : TMem) (a1 : Int32) (a2 : Int32) (a3 : Int32) (a4 : Int32) {Q : Int32 → TMem → Prop} {X : String → TMem → Prop} (h : ∀ (r : Int32) (μ9 : TMem), Fr 3 μ μ9 → Q r μ9) (hX : ∀ (E : String) (μ9 : TMem), E ∈ ex_IA → Fr 3 μ μ9 → X E μ9) : wp_X9_sow μ a1 a2 a3 a4 Q X := by
  show wp_X9_machineAt μ a1 (fun (k2 : Nat) (μ1 : TMem) => wp_X9_checkRange μ1 a2 (0 : Int32) (65535 : Int32) (fun (μ3 : TMem) => wp_X9_checkRange μ3 a3 (1 : Int32) (7 : Int32) (fun (μ4 : TMem) => wp_X9_checkRange μ4 a4 (0 : Int32) (6 : Int32) (fun (μ5 : TMem) => wp_X0_restart μ5 a2 (fun (μ6 : TMem) => wp_X2_clear k2 μ6 a3 (fun (μ7 : TMem) => wp_X2_sowArrows k2 μ7 a4 (fun (μ8 : TMem) => wp_X2_sowGoals k2 μ8 (fun (μ9 : TMem) => wp_X2_countArrows k2 μ9 (fun (r10 : Int32) => wp_X9_acted μ9 r10 (fun (r14 : Int32) (μ13 : TMem) => Q r14 μ13))))))) X) X) X) X
  refine f_X9_machineAt μ a1 (fun k2 μ1 hk358 hf359 => ?_) (fun E9 μ9 e9 f9 => hX E9 μ9 (ex_sub (by decide) e9) (Fr.trans (Fr.rf) (Fr.up (by decide) f9)))
  refine f_X9_checkRange μ1 a2 (0 : Int32) (65535 : Int32) (fun μ3 hf360 => ?_) (fun E9 μ9 e9 f9 => hX E9 μ9 (ex_sub (by decide) e9) (Fr.trans (Fr.trans (Fr.rf) (Fr.up (by decide) hf359)) (Fr.up (by decide) f9)))
  refine f_X9_checkRange μ3 a3 (1 : Int32) (7 : Int32) (fun μ4 hf361 => ?_) (fun E9 μ9 e9 f9 => hX E9 μ9 (ex_sub (by decide) e9) (Fr.trans (Fr.trans (Fr.trans (Fr.rf) (Fr.up (by decide) hf359)) (Fr.up (by decide) hf360)) (Fr.up (by decide) f9)))
  refine f_X9_checkRange μ4 a4 (0 : Int32) (6 : Int32) (fun μ5 hf362 => ?_) (fun E9 μ9 e9 f9 => hX E9 μ9 (ex_sub (by decide) e9) (Fr.trans (Fr.trans (Fr.trans (Fr.trans (Fr.rf) (Fr.up (by decide) hf359)) (Fr.up (by decide) hf360)) (Fr.up (by decide) hf361)) (Fr.up (by decide) f9)))
  refine f_X0_restart μ5 a2 (fun μ6 hf363 => ?_)
  refine f_X2_clear k2 hk358 μ6 a3 (fun μ7 hf364 => ?_)
  refine f_X2_sowArrows k2 hk358 μ7 a4 (fun μ8 hf365 => ?_)
  refine f_X2_sowGoals k2 hk358 μ8 (fun μ9 hf366 => ?_)
  refine f_X2_countArrows k2 hk358 μ9 (fun r10 => ?_)
  refine f_X9_acted μ9 r10 (fun r14 μ13 hf367 => ?_)
  exact h _ _ (Fr.trans (Fr.trans (Fr.trans (Fr.trans (Fr.trans (Fr.trans (Fr.trans (Fr.trans (Fr.trans (Fr.rf) (Fr.up (by decide) hf359)) (Fr.up (by decide) hf360)) (Fr.up (by decide) hf361)) (Fr.up (by decide) hf362)) (Fr.up (by decide) hf363)) (Fr.up (by decide) hf364)) (Fr.up (by decide) hf365)) (Fr.up (by decide) hf366)) (Fr.up (by decide) hf367))
set_option maxHeartbeats 2000000 in
theorem f_X9_copy (μ : TMem) (a1 : Int32) (a2 : Int32) {Q : Int32 → TMem → Prop} {X : String → TMem → Prop} (h : ∀ (r : Int32) (μ9 : TMem), Fr 3 μ μ9 → Q r μ9) (hX : ∀ (E : String) (μ9 : TMem), E ∈ ex_I → Fr 3 μ μ9 → X E μ9) : wp_X9_copy μ a1 a2 Q X := by
  show wp_X9_machineAt μ a1 (fun (k2 : Nat) (μ1 : TMem) => wp_X9_machineAt μ1 a2 (fun (k4 : Nat) (μ3 : TMem) => wp_X2_isSameAs k4 k2 μ3 (fun (r5 : Int32) => wp_X2_become k4 k2 μ3 (fun (μ8 : TMem) => (r5 = 0 → (wp_X9_acted μ8 (1 : Int32) (fun (r11 : Int32) (μ10 : TMem) => Q r11 μ10))) ∧ (¬ r5 = 0 → (wp_X9_acted μ8 (0 : Int32) (fun (r13 : Int32) (μ12 : TMem) => Q r13 μ12)))))) X) X
  refine f_X9_machineAt μ a1 (fun k2 μ1 hk368 hf369 => ?_) (fun E9 μ9 e9 f9 => hX E9 μ9 e9 (Fr.trans (Fr.rf) (Fr.up (by decide) f9)))
  refine f_X9_machineAt μ1 a2 (fun k4 μ3 hk370 hf371 => ?_) (fun E9 μ9 e9 f9 => hX E9 μ9 e9 (Fr.trans (Fr.trans (Fr.rf) (Fr.up (by decide) hf369)) (Fr.up (by decide) f9)))
  refine f_X2_isSameAs k4 hk370 k2 hk368 μ3 (fun r5 b372 => ?_)
  refine f_X2_become k4 hk370 k2 hk368 μ3 (fun μ8 hf373 => ?_)
  refine ⟨fun c374 => ?_, fun c375 => ?_⟩
  · refine f_X9_acted μ8 (1 : Int32) (fun r11 μ10 hf376 => ?_)
    exact h _ _ (Fr.trans (Fr.trans (Fr.trans (Fr.trans (Fr.rf) (Fr.up (by decide) hf369)) (Fr.up (by decide) hf371)) (Fr.up (by decide) hf373)) (Fr.up (by decide) hf376))
  · refine f_X9_acted μ8 (0 : Int32) (fun r13 μ12 hf377 => ?_)
    exact h _ _ (Fr.trans (Fr.trans (Fr.trans (Fr.trans (Fr.rf) (Fr.up (by decide) hf369)) (Fr.up (by decide) hf371)) (Fr.up (by decide) hf373)) (Fr.up (by decide) hf377))
set_option maxHeartbeats 2000000 in
theorem f_X9_swap (μ : TMem) (a1 : Int32) (a2 : Int32) {Q : Int32 → TMem → Prop} {X : String → TMem → Prop} (h : ∀ (r : Int32) (μ9 : TMem), Fr 3 μ μ9 → Q r μ9) (hX : ∀ (E : String) (μ9 : TMem), E ∈ ex_I → Fr 3 μ μ9 → X E μ9) : wp_X9_swap μ a1 a2 Q X := by
  show wp_X9_machineAt μ a1 (fun (k2 : Nat) (μ1 : TMem) => wp_X9_machineAt μ1 a2 (fun (k4 : Nat) (μ3 : TMem) => wp_X2_isSameAs k2 k4 μ3 (fun (r5 : Int32) => wp_X2_become 10 k2 μ3 (fun (μ8 : TMem) => wp_X2_become k2 k4 μ8 (fun (μ9 : TMem) => wp_X2_become k4 10 μ9 (fun (μ10 : TMem) => (r5 = 0 → (wp_X9_acted μ10 (1 : Int32) (fun (r13 : Int32) (μ12 : TMem) => Q r13 μ12))) ∧ (¬ r5 = 0 → (wp_X9_acted μ10 (0 : Int32) (fun (r15 : Int32) (μ14 : TMem) => Q r15 μ14)))))))) X) X
  refine f_X9_machineAt μ a1 (fun k2 μ1 hk378 hf379 => ?_) (fun E9 μ9 e9 f9 => hX E9 μ9 e9 (Fr.trans (Fr.rf) (Fr.up (by decide) f9)))
  refine f_X9_machineAt μ1 a2 (fun k4 μ3 hk380 hf381 => ?_) (fun E9 μ9 e9 f9 => hX E9 μ9 e9 (Fr.trans (Fr.trans (Fr.rf) (Fr.up (by decide) hf379)) (Fr.up (by decide) f9)))
  refine f_X2_isSameAs k2 hk378 k4 hk380 μ3 (fun r5 b382 => ?_)
  refine f_X2_become 10 rfl k2 hk378 μ3 (fun μ8 hf383 => ?_)
  refine f_X2_become k2 hk378 k4 hk380 μ8 (fun μ9 hf384 => ?_)
  refine f_X2_become k4 hk380 10 rfl μ9 (fun μ10 hf385 => ?_)
  refine ⟨fun c386 => ?_, fun c387 => ?_⟩
  · refine f_X9_acted μ10 (1 : Int32) (fun r13 μ12 hf388 => ?_)
    exact h _ _ (Fr.trans (Fr.trans (Fr.trans (Fr.trans (Fr.trans (Fr.trans (Fr.rf) (Fr.up (by decide) hf379)) (Fr.up (by decide) hf381)) (Fr.up (by decide) hf383)) (Fr.up (by decide) hf384)) (Fr.up (by decide) hf385)) (Fr.up (by decide) hf388))
  · refine f_X9_acted μ10 (0 : Int32) (fun r15 μ14 hf389 => ?_)
    exact h _ _ (Fr.trans (Fr.trans (Fr.trans (Fr.trans (Fr.trans (Fr.trans (Fr.rf) (Fr.up (by decide) hf379)) (Fr.up (by decide) hf381)) (Fr.up (by decide) hf383)) (Fr.up (by decide) hf384)) (Fr.up (by decide) hf385)) (Fr.up (by decide) hf389))
set_option maxHeartbeats 2000000 in
theorem f_X9_turn (μ : TMem) (a1 : Int32) {Q : Int32 → TMem → Prop} {X : String → TMem → Prop} (h : ∀ (r : Int32) (μ9 : TMem), Fr 3 μ μ9 → Q r μ9) (hX : ∀ (E : String) (μ9 : TMem), E ∈ ex_I → Fr 3 μ μ9 → X E μ9) : wp_X9_turn μ a1 Q X := by
  show wp_X9_machineAt μ a1 (fun (k2 : Nat) (μ1 : TMem) => wp_X2_become 10 k2 μ1 (fun (μ3 : TMem) => wp_X2_becomeRound k2 10 μ3 (fun (μ4 : TMem) => wp_X2_countArrows k2 μ4 (fun (r5 : Int32) => wp_X9_acted μ4 r5 (fun (r9 : Int32) (μ8 : TMem) => Q r9 μ8))))) X
  refine f_X9_machineAt μ a1 (fun k2 μ1 hk390 hf391 => ?_) (fun E9 μ9 e9 f9 => hX E9 μ9 e9 (Fr.trans (Fr.rf) (Fr.up (by decide) f9)))
  refine f_X2_become 10 rfl k2 hk390 μ1 (fun μ3 hf392 => ?_)
  refine f_X2_becomeRound k2 hk390 10 rfl μ3 (fun μ4 hf393 => ?_)
  refine f_X2_countArrows k2 hk390 μ4 (fun r5 => ?_)
  refine f_X9_acted μ4 r5 (fun r9 μ8 hf394 => ?_)
  exact h _ _ (Fr.trans (Fr.trans (Fr.trans (Fr.trans (Fr.rf) (Fr.up (by decide) hf391)) (Fr.up (by decide) hf392)) (Fr.up (by decide) hf393)) (Fr.up (by decide) hf394))
set_option maxHeartbeats 2000000 in
theorem f_X9_other (μ : TMem) (a1 : Int32) {Q : Int32 → TMem → Prop} {X : String → TMem → Prop} (h : ∀ (r : Int32) (μ9 : TMem), Fr 3 μ μ9 → Q r μ9) (hX : ∀ (E : String) (μ9 : TMem), E ∈ ex_I → Fr 3 μ μ9 → X E μ9) : wp_X9_other μ a1 Q X := by
  show wp_X9_machineAt μ a1 (fun (k2 : Nat) (μ1 : TMem) => wp_X2_isPlain k2 μ1 (fun (r3 : Int32) => (¬ r3 = 0 → (wp_X2_allStates k2 μ1 (fun (r7 : Int32) => wp_J6_bitCount_0f7a4 ((tms μ1 k2 2 (r7 &&& ((μ1 k2 2) ^^^ (-1 : Int32)))) k2 2) (fun (r10 : Int32) => wp_X9_acted (tms μ1 k2 2 (r7 &&& ((μ1 k2 2) ^^^ (-1 : Int32)))) r10 (fun (r12 : Int32) (μ11 : TMem) => Q r12 μ11))))) ∧ (r3 = 0 → (wp_X9_refuse μ1 (fun (r14 : Int32) (μ13 : TMem) => Q r14 μ13))))) X
  refine f_X9_machineAt μ a1 (fun k2 μ1 hk395 hf396 => ?_) (fun E9 μ9 e9 f9 => hX E9 μ9 e9 (Fr.trans (Fr.rf) (Fr.up (by decide) f9)))
  refine f_X2_isPlain k2 hk395 μ1 (fun r3 b397 => ?_)
  refine ⟨fun c398 => ?_, fun c399 => ?_⟩
  · refine f_X2_allStates k2 hk395 μ1 (fun r7 => ?_)
    refine f_J6_bitCount_0f7a4 ((tms μ1 k2 2 (r7 &&& ((μ1 k2 2) ^^^ (-1 : Int32)))) k2 2) (fun r10 => ?_)
    refine f_X9_acted (tms μ1 k2 2 (r7 &&& ((μ1 k2 2) ^^^ (-1 : Int32)))) r10 (fun r12 μ11 hf400 => ?_)
    exact h _ _ (Fr.trans (Fr.st (Fr.trans (Fr.rf) (Fr.up (by decide) hf396)) (by rw [show kd k2 = 2 from hk395] <;> rfl) (Or.inl (ne43 (K := 2) hk395 (by decide)))) (Fr.up (by decide) hf400))
  · refine f_X9_refuse μ1 (fun r14 μ13 hf401 => ?_)
    exact h _ _ (Fr.trans (Fr.trans (Fr.rf) (Fr.up (by decide) hf396)) (Fr.up (by decide) hf401))
set_option maxHeartbeats 2000000 in
theorem f_X9_grow (μ : TMem) (a1 : Int32) {Q : Int32 → TMem → Prop} {X : String → TMem → Prop} (h : ∀ (r : Int32) (μ9 : TMem), Fr 3 μ μ9 → Q r μ9) (hX : ∀ (E : String) (μ9 : TMem), E ∈ ex_I → Fr 3 μ μ9 → X E μ9) : wp_X9_grow μ a1 Q X := by
  show wp_X9_machineAt μ a1 (fun (k2 : Nat) (μ1 : TMem) => ((μ1 k2 1) < (7 : Int32) → (wp_X2_addState k2 μ1 (fun (μ4 : TMem) => wp_X9_acted μ4 ((μ4 k2 1) - (1 : Int32)) (fun (r6 : Int32) (μ5 : TMem) => Q r6 μ5)))) ∧ (¬ (μ1 k2 1) < (7 : Int32) → (wp_X9_refuse μ1 (fun (r8 : Int32) (μ7 : TMem) => Q r8 μ7)))) X
  refine f_X9_machineAt μ a1 (fun k2 μ1 hk402 hf403 => ?_) (fun E9 μ9 e9 f9 => hX E9 μ9 e9 (Fr.trans (Fr.rf) (Fr.up (by decide) f9)))
  refine ⟨fun c404 => ?_, fun c405 => ?_⟩
  · refine f_X2_addState k2 hk402 μ1 (fun μ4 hf406 => ?_)
    refine f_X9_acted μ4 ((μ4 k2 1) - (1 : Int32)) (fun r6 μ5 hf407 => ?_)
    exact h _ _ (Fr.trans (Fr.trans (Fr.trans (Fr.rf) (Fr.up (by decide) hf403)) (Fr.up (by decide) hf406)) (Fr.up (by decide) hf407))
  · refine f_X9_refuse μ1 (fun r8 μ7 hf408 => ?_)
    exact h _ _ (Fr.trans (Fr.trans (Fr.rf) (Fr.up (by decide) hf403)) (Fr.up (by decide) hf408))
set_option maxHeartbeats 2000000 in
theorem f_X9_drop (μ : TMem) (a1 : Int32) (a2 : Int32) {Q : Int32 → TMem → Prop} {X : String → TMem → Prop} (h : ∀ (r : Int32) (μ9 : TMem), Fr 3 μ μ9 → Q r μ9) (hX : ∀ (E : String) (μ9 : TMem), E ∈ ex_I → Fr 3 μ μ9 → X E μ9) : wp_X9_drop μ a1 a2 Q X := by
  show wp_X9_machineAt μ a1 (fun (k2 : Nat) (μ1 : TMem) => wp_X9_checkState k2 μ1 a2 (fun (μ3 : TMem) => (¬ (μ3 k2 1) = (1 : Int32) → (wp_X2_countArrows k2 μ3 (fun (r5 : Int32) => wp_X2_removeState k2 μ3 a2 (fun (μ8 : TMem) => wp_X2_countArrows k2 μ8 (fun (r9 : Int32) => wp_X9_acted μ8 (r5 - r9) (fun (r13 : Int32) (μ12 : TMem) => Q r13 μ12)))))) ∧ ((μ3 k2 1) = (1 : Int32) → (wp_X9_refuse μ3 (fun (r15 : Int32) (μ14 : TMem) => Q r15 μ14)))) X) X
  refine f_X9_machineAt μ a1 (fun k2 μ1 hk409 hf410 => ?_) (fun E9 μ9 e9 f9 => hX E9 μ9 e9 (Fr.trans (Fr.rf) (Fr.up (by decide) f9)))
  refine f_X9_checkState k2 hk409 μ1 a2 (fun μ3 hf411 => ?_) (fun E9 μ9 e9 f9 => hX E9 μ9 e9 (Fr.trans (Fr.trans (Fr.rf) (Fr.up (by decide) hf410)) (Fr.up (by decide) f9)))
  refine ⟨fun c412 => ?_, fun c413 => ?_⟩
  · refine f_X2_countArrows k2 hk409 μ3 (fun r5 => ?_)
    refine f_X2_removeState k2 hk409 μ3 a2 (fun μ8 hf414 => ?_)
    refine f_X2_countArrows k2 hk409 μ8 (fun r9 => ?_)
    refine f_X9_acted μ8 (r5 - r9) (fun r13 μ12 hf415 => ?_)
    exact h _ _ (Fr.trans (Fr.trans (Fr.trans (Fr.trans (Fr.rf) (Fr.up (by decide) hf410)) (Fr.up (by decide) hf411)) (Fr.up (by decide) hf414)) (Fr.up (by decide) hf415))
  · refine f_X9_refuse μ3 (fun r15 μ14 hf416 => ?_)
    exact h _ _ (Fr.trans (Fr.trans (Fr.trans (Fr.rf) (Fr.up (by decide) hf410)) (Fr.up (by decide) hf411)) (Fr.up (by decide) hf416))
set_option maxHeartbeats 2000000 in
theorem f_X9_make (μ : TMem) (a1 : Int32) (a2 : Int32) (a3 : Int32) {Q : Int32 → TMem → Prop} {X : String → TMem → Prop} (h : ∀ (r : Int32) (μ9 : TMem), Fr 3 μ μ9 → Q r μ9) (hX : ∀ (E : String) (μ9 : TMem), E ∈ ex_I → Fr 3 μ μ9 → X E μ9) : wp_X9_make μ a1 a2 a3 Q X := by
  show wp_X9_machineAt μ a1 (fun (k2 : Nat) (μ1 : TMem) => wp_X9_machineAt μ1 a3 (fun (k4 : Nat) (μ3 : TMem) => (a2 = 0 → (wp_X3_makeBy k2 57 μ3 (3 : Int32) (fun (r7 : Int32) (μ6 : TMem) => (¬ r7 = 0 → (wp_X9_becomeMade k4 μ6 (fun (r10 : Int32) (μ9 : TMem) => Q r10 μ9))) ∧ (r7 = 0 → (wp_X9_refuse μ6 (fun (r12 : Int32) (μ11 : TMem) => Q r12 μ11)))))) ∧ (¬ a2 = 0 → (wp_X3_makeBy k2 57 μ3 (0 : Int32) (fun (r14 : Int32) (μ13 : TMem) => (¬ r14 = 0 → (wp_X9_becomeMade k4 μ13 (fun (r17 : Int32) (μ16 : TMem) => Q r17 μ16))) ∧ (r14 = 0 → (wp_X9_refuse μ13 (fun (r19 : Int32) (μ18 : TMem) => Q r19 μ18))))))) X) X
  refine f_X9_machineAt μ a1 (fun k2 μ1 hk417 hf418 => ?_) (fun E9 μ9 e9 f9 => hX E9 μ9 e9 (Fr.trans (Fr.rf) (Fr.up (by decide) f9)))
  refine f_X9_machineAt μ1 a3 (fun k4 μ3 hk419 hf420 => ?_) (fun E9 μ9 e9 f9 => hX E9 μ9 e9 (Fr.trans (Fr.trans (Fr.rf) (Fr.up (by decide) hf418)) (Fr.up (by decide) f9)))
  refine ⟨fun c421 => ?_, fun c422 => ?_⟩
  · refine f_X3_makeBy k2 hk417 57 rfl μ3 (3 : Int32) (fun r7 μ6 b423 hf424 => ?_)
    refine ⟨fun c425 => ?_, fun c426 => ?_⟩
    · refine f_X9_becomeMade k4 hk419 μ6 (fun r10 μ9 hf427 => ?_)
      exact h _ _ (Fr.trans (Fr.trans (Fr.trans (Fr.trans (Fr.rf) (Fr.up (by decide) hf418)) (Fr.up (by decide) hf420)) (Fr.up (by decide) hf424)) (Fr.up (by decide) hf427))
    · refine f_X9_refuse μ6 (fun r12 μ11 hf428 => ?_)
      exact h _ _ (Fr.trans (Fr.trans (Fr.trans (Fr.trans (Fr.rf) (Fr.up (by decide) hf418)) (Fr.up (by decide) hf420)) (Fr.up (by decide) hf424)) (Fr.up (by decide) hf428))
  · refine f_X3_makeBy k2 hk417 57 rfl μ3 (0 : Int32) (fun r14 μ13 b429 hf430 => ?_)
    refine ⟨fun c431 => ?_, fun c432 => ?_⟩
    · refine f_X9_becomeMade k4 hk419 μ13 (fun r17 μ16 hf433 => ?_)
      exact h _ _ (Fr.trans (Fr.trans (Fr.trans (Fr.trans (Fr.rf) (Fr.up (by decide) hf418)) (Fr.up (by decide) hf420)) (Fr.up (by decide) hf430)) (Fr.up (by decide) hf433))
    · refine f_X9_refuse μ13 (fun r19 μ18 hf434 => ?_)
      exact h _ _ (Fr.trans (Fr.trans (Fr.trans (Fr.trans (Fr.rf) (Fr.up (by decide) hf418)) (Fr.up (by decide) hf420)) (Fr.up (by decide) hf430)) (Fr.up (by decide) hf434))
set_option maxHeartbeats 2000000 in
theorem f_X9_combine (μ : TMem) (a1 : Int32) (a2 : Int32) (a3 : Int32) (a4 : Int32) {Q : Int32 → TMem → Prop} {X : String → TMem → Prop} (h : ∀ (r : Int32) (μ9 : TMem), Fr 3 μ μ9 → Q r μ9) (hX : ∀ (E : String) (μ9 : TMem), E ∈ ex_IA → Fr 3 μ μ9 → X E μ9) : wp_X9_combine μ a1 a2 a3 a4 Q X := by
  show wp_X9_machineAt μ a1 (fun (k2 : Nat) (μ1 : TMem) => wp_X9_machineAt μ1 a2 (fun (k4 : Nat) (μ3 : TMem) => wp_X9_machineAt μ3 a4 (fun (k6 : Nat) (μ5 : TMem) => wp_X9_checkRange μ5 a3 (0 : Int32) (3 : Int32) (fun (μ7 : TMem) => wp_X9_putTogether k2 k4 μ7 a3 (fun (r9 : Int32) (μ8 : TMem) => (¬ r9 = 0 → (wp_X9_becomeMade k6 μ8 (fun (r12 : Int32) (μ11 : TMem) => Q r12 μ11))) ∧ (r9 = 0 → (wp_X9_refuse μ8 (fun (r14 : Int32) (μ13 : TMem) => Q r14 μ13))))) X) X) X) X
  refine f_X9_machineAt μ a1 (fun k2 μ1 hk435 hf436 => ?_) (fun E9 μ9 e9 f9 => hX E9 μ9 (ex_sub (by decide) e9) (Fr.trans (Fr.rf) (Fr.up (by decide) f9)))
  refine f_X9_machineAt μ1 a2 (fun k4 μ3 hk437 hf438 => ?_) (fun E9 μ9 e9 f9 => hX E9 μ9 (ex_sub (by decide) e9) (Fr.trans (Fr.trans (Fr.rf) (Fr.up (by decide) hf436)) (Fr.up (by decide) f9)))
  refine f_X9_machineAt μ3 a4 (fun k6 μ5 hk439 hf440 => ?_) (fun E9 μ9 e9 f9 => hX E9 μ9 (ex_sub (by decide) e9) (Fr.trans (Fr.trans (Fr.trans (Fr.rf) (Fr.up (by decide) hf436)) (Fr.up (by decide) hf438)) (Fr.up (by decide) f9)))
  refine f_X9_checkRange μ5 a3 (0 : Int32) (3 : Int32) (fun μ7 hf441 => ?_) (fun E9 μ9 e9 f9 => hX E9 μ9 (ex_sub (by decide) e9) (Fr.trans (Fr.trans (Fr.trans (Fr.trans (Fr.rf) (Fr.up (by decide) hf436)) (Fr.up (by decide) hf438)) (Fr.up (by decide) hf440)) (Fr.up (by decide) f9)))
  refine f_X9_putTogether k2 hk435 k4 hk437 μ7 a3 (fun r9 μ8 b442 hf443 => ?_)
  refine ⟨fun c444 => ?_, fun c445 => ?_⟩
  · refine f_X9_becomeMade k6 hk439 μ8 (fun r12 μ11 hf446 => ?_)
    exact h _ _ (Fr.trans (Fr.trans (Fr.trans (Fr.trans (Fr.trans (Fr.trans (Fr.rf) (Fr.up (by decide) hf436)) (Fr.up (by decide) hf438)) (Fr.up (by decide) hf440)) (Fr.up (by decide) hf441)) (Fr.up (by decide) hf443)) (Fr.up (by decide) hf446))
  · refine f_X9_refuse μ8 (fun r14 μ13 hf447 => ?_)
    exact h _ _ (Fr.trans (Fr.trans (Fr.trans (Fr.trans (Fr.trans (Fr.trans (Fr.rf) (Fr.up (by decide) hf436)) (Fr.up (by decide) hf438)) (Fr.up (by decide) hf440)) (Fr.up (by decide) hf441)) (Fr.up (by decide) hf443)) (Fr.up (by decide) hf447))
set_option maxHeartbeats 2000000 in
theorem f_X9_tell (μ : TMem) (a1 : Int32) (a2 : Int32) {Q : Int32 → TMem → Prop} {X : String → TMem → Prop} (h : ∀ (r : Int32) (μ9 : TMem), Fr 0 μ μ9 → Q r μ9) (hX : ∀ (E : String) (μ9 : TMem), E ∈ ex_IA → Fr 0 μ μ9 → X E μ9) : wp_X9_tell μ a1 a2 Q X := by
  show wp_X9_machineAt μ a1 (fun (k2 : Nat) (μ1 : TMem) => wp_X9_checkRange μ1 a2 (0 : Int32) (4 : Int32) (fun (μ3 : TMem) => (a2 = (0 : Int32) → (Q (μ3 k2 1) μ3)) ∧ (¬ a2 = (0 : Int32) → (a2 = (1 : Int32) → (wp_X2_countArrows k2 μ3 (fun (r6 : Int32) => Q r6 μ3))) ∧ (¬ a2 = (1 : Int32) → (a2 = (2 : Int32) → (Q (μ3 k2 3) μ3)) ∧ (¬ a2 = (2 : Int32) → (a2 = (3 : Int32) → (Q (μ3 k2 2) μ3)) ∧ (¬ a2 = (3 : Int32) → (wp_X2_isPlain k2 μ3 (fun (r12 : Int32) => (r12 = 0 → (Q (0 : Int32) μ3)) ∧ (¬ r12 = 0 → (Q (1 : Int32) μ3))))))))) X) X
  refine f_X9_machineAt μ a1 (fun k2 μ1 hk448 hf449 => ?_) (fun E9 μ9 e9 f9 => hX E9 μ9 (ex_sub (by decide) e9) (Fr.trans (Fr.rf) (Fr.up (by decide) f9)))
  refine f_X9_checkRange μ1 a2 (0 : Int32) (4 : Int32) (fun μ3 hf450 => ?_) (fun E9 μ9 e9 f9 => hX E9 μ9 (ex_sub (by decide) e9) (Fr.trans (Fr.trans (Fr.rf) (Fr.up (by decide) hf449)) (Fr.up (by decide) f9)))
  refine ⟨fun c451 => ?_, fun c452 => ?_⟩
  · exact h _ _ (Fr.trans (Fr.trans (Fr.rf) (Fr.up (by decide) hf449)) (Fr.up (by decide) hf450))
  · refine ⟨fun c453 => ?_, fun c454 => ?_⟩
    · refine f_X2_countArrows k2 hk448 μ3 (fun r6 => ?_)
      exact h _ _ (Fr.trans (Fr.trans (Fr.rf) (Fr.up (by decide) hf449)) (Fr.up (by decide) hf450))
    · refine ⟨fun c455 => ?_, fun c456 => ?_⟩
      · exact h _ _ (Fr.trans (Fr.trans (Fr.rf) (Fr.up (by decide) hf449)) (Fr.up (by decide) hf450))
      · refine ⟨fun c457 => ?_, fun c458 => ?_⟩
        · exact h _ _ (Fr.trans (Fr.trans (Fr.rf) (Fr.up (by decide) hf449)) (Fr.up (by decide) hf450))
        · refine f_X2_isPlain k2 hk448 μ3 (fun r12 b459 => ?_)
          refine ⟨fun c460 => ?_, fun c461 => ?_⟩
          · exact h _ _ (Fr.trans (Fr.trans (Fr.rf) (Fr.up (by decide) hf449)) (Fr.up (by decide) hf450))
          · exact h _ _ (Fr.trans (Fr.trans (Fr.rf) (Fr.up (by decide) hf449)) (Fr.up (by decide) hf450))
set_option maxHeartbeats 2000000 in
theorem f_X9_arrows (μ : TMem) (a1 : Int32) (a2 : Int32) (a3 : Int32) {Q : Int32 → TMem → Prop} {X : String → TMem → Prop} (h : ∀ (r : Int32) (μ9 : TMem), Fr 0 μ μ9 → Q r μ9) (hX : ∀ (E : String) (μ9 : TMem), E ∈ ex_IA → Fr 0 μ μ9 → X E μ9) : wp_X9_arrows μ a1 a2 a3 Q X := by
  show wp_X9_machineAt μ a1 (fun (k2 : Nat) (μ1 : TMem) => wp_X9_checkState k2 μ1 a2 (fun (μ3 : TMem) => wp_X9_checkSign μ3 a3 (fun (μ4 : TMem) => wp_X7_at k2 μ4 a2 a3 (fun (r5 : Int32) => Q r5 μ4)) X) X) X
  refine f_X9_machineAt μ a1 (fun k2 μ1 hk462 hf463 => ?_) (fun E9 μ9 e9 f9 => hX E9 μ9 (ex_sub (by decide) e9) (Fr.trans (Fr.rf) (Fr.up (by decide) f9)))
  refine f_X9_checkState k2 hk462 μ1 a2 (fun μ3 hf464 => ?_) (fun E9 μ9 e9 f9 => hX E9 μ9 (ex_sub (by decide) e9) (Fr.trans (Fr.trans (Fr.rf) (Fr.up (by decide) hf463)) (Fr.up (by decide) f9)))
  refine f_X9_checkSign μ3 a3 (fun μ4 hf465 => ?_) (fun E9 μ9 e9 f9 => hX E9 μ9 (ex_sub (by decide) e9) (Fr.trans (Fr.trans (Fr.trans (Fr.rf) (Fr.up (by decide) hf463)) (Fr.up (by decide) hf464)) (Fr.up (by decide) f9)))
  refine f_X7_at k2 (Or.inl hk462) μ4 a2 a3 (fun r5 => ?_)
  exact h _ _ (Fr.trans (Fr.trans (Fr.trans (Fr.rf) (Fr.up (by decide) hf463)) (Fr.up (by decide) hf464)) (Fr.up (by decide) hf465))
set_option maxHeartbeats 2000000 in
theorem f_X9_checkWord (μ : TMem) (a0 : Int32) (a1 : Int32) {Q : TMem → Prop} {X : String → TMem → Prop} (h : ∀ μ9 : TMem, Fr 0 μ μ9 → Q μ9) (hX : ∀ (E : String) (μ9 : TMem), E ∈ ex_A → Fr 0 μ μ9 → X E μ9) : wp_X9_checkWord μ a0 a1 Q X := by
  show wp_X9_checkRange μ a0 (0 : Int32) (12 : Int32) (fun (μ1 : TMem) => wp_X9_countCodes a0 (fun (r2 : Int32) => wp_X9_checkRange μ1 a1 (0 : Int32) (r2 - (1 : Int32)) (fun (μ3 : TMem) => Q μ3) X)) X
  refine f_X9_checkRange μ a0 (0 : Int32) (12 : Int32) (fun μ1 hf466 => ?_) (fun E9 μ9 e9 f9 => hX E9 μ9 e9 (Fr.trans (Fr.rf) (Fr.up (by decide) f9)))
  refine f_X9_countCodes a0 (fun r2 => ?_)
  refine f_X9_checkRange μ1 a1 (0 : Int32) (r2 - (1 : Int32)) (fun μ3 hf467 => ?_) (fun E9 μ9 e9 f9 => hX E9 μ9 e9 (Fr.trans (Fr.trans (Fr.rf) (Fr.up (by decide) hf466)) (Fr.up (by decide) f9)))
  exact h _ (Fr.trans (Fr.trans (Fr.rf) (Fr.up (by decide) hf466)) (Fr.up (by decide) hf467))
set_option maxHeartbeats 2000000 in
theorem f_X9_takes (μ : TMem) (a1 : Int32) (a2 : Int32) (a3 : Int32) {Q : Int32 → TMem → Prop} {X : String → TMem → Prop} (h : ∀ (r : Int32) (μ9 : TMem), isB r → Fr 0 μ μ9 → Q r μ9) (hX : ∀ (E : String) (μ9 : TMem), E ∈ ex_IA → Fr 0 μ μ9 → X E μ9) : wp_X9_takes μ a1 a2 a3 Q X := by
  show wp_X9_machineAt μ a1 (fun (k2 : Nat) (μ1 : TMem) => wp_X9_checkWord μ1 a2 a3 (fun (μ3 : TMem) => wp_X2_isTaking k2 μ3 a2 a3 (fun (r4 : Int32) => isB r4 ∧ Q r4 μ3)) X) X
  refine f_X9_machineAt μ a1 (fun k2 μ1 hk468 hf469 => ?_) (fun E9 μ9 e9 f9 => hX E9 μ9 (ex_sub (by decide) e9) (Fr.trans (Fr.rf) (Fr.up (by decide) f9)))
  refine f_X9_checkWord μ1 a2 a3 (fun μ3 hf470 => ?_) (fun E9 μ9 e9 f9 => hX E9 μ9 (ex_sub (by decide) e9) (Fr.trans (Fr.trans (Fr.rf) (Fr.up (by decide) hf469)) (Fr.up (by decide) f9)))
  refine f_X2_isTaking k2 hk468 μ3 a2 a3 (fun r4 b471 => ?_)
  refine ⟨(by first | assumption | exact Or.inl rfl | exact Or.inr rfl | exact isB_or (by assumption) (by first | assumption | exact Or.inl rfl | exact Or.inr rfl)), ?_⟩
  exact h _ _ (by first | assumption | exact Or.inl rfl | exact Or.inr rfl | exact isB_or (by assumption) (by first | assumption | exact Or.inl rfl | exact Or.inr rfl)) (Fr.trans (Fr.trans (Fr.rf) (Fr.up (by decide) hf469)) (Fr.up (by decide) hf470))
set_option maxHeartbeats 2000000 in
theorem f_X9_makeOrThrow (k2 : Nat) (hk2 : kd k2 = 2) (k3 : Nat) (hk3 : kd k3 = 5) (μ : TMem) (a1 : Int32) {Q : TMem → Prop} {X : String → TMem → Prop} (h : ∀ μ9 : TMem, Fr 2 μ μ9 → Q μ9) (hX : ∀ (E : String) (μ9 : TMem), E ∈ ex_S → Fr 2 μ μ9 → X E μ9) : wp_X9_makeOrThrow k2 k3 μ a1 Q X := by
  show wp_X3_makeBy k2 k3 μ a1 (fun (r2 : Int32) (μ1 : TMem) => (¬ r2 = 0 → (Q μ1)) ∧ (r2 = 0 → (X "java/lang/IllegalStateException" μ1)))
  refine f_X3_makeBy k2 hk2 k3 hk3 μ a1 (fun r2 μ1 b472 hf473 => ?_)
  refine ⟨fun c474 => ?_, fun c475 => ?_⟩
  · exact h _ (Fr.trans (Fr.rf) (Fr.up (by decide) hf473))
  · exact hX _ _ (by decide) (Fr.trans (Fr.rf) (Fr.up (by decide) hf473))
set_option maxHeartbeats 2000000 in
theorem f_X9_after (μ : TMem) (a1 : Int32) (a2 : Int32) (a3 : Int32) (a4 : Int32) {Q : Int32 → TMem → Prop} {X : String → TMem → Prop} (h : ∀ (r : Int32) (μ9 : TMem), Fr 2 μ μ9 → Q r μ9) (hX : ∀ (E : String) (μ9 : TMem), E ∈ ex_IAS → Fr 2 μ μ9 → X E μ9) : wp_X9_after μ a1 a2 a3 a4 Q X := by
  show wp_X9_machineAt μ a1 (fun (k2 : Nat) (μ1 : TMem) => wp_X9_checkWord μ1 a2 a3 (fun (μ3 : TMem) => wp_X9_checkRange μ3 a4 (0 : Int32) (2 : Int32) (fun (μ4 : TMem) => (¬ a4 = 0 → ((¬ a4 = (1 : Int32) → (wp_X9_makeOrThrow k2 57 μ4 (0 : Int32) (fun (μ7 : TMem) => wp_X5_stateAfter 57 μ7 a2 a3 (fun (r8 : Int32) => Q r8 μ7)) X)) ∧ (a4 = (1 : Int32) → (wp_X9_makeOrThrow k2 57 μ4 (3 : Int32) (fun (μ11 : TMem) => wp_X5_stateAfter 57 μ11 a2 a3 (fun (r12 : Int32) => Q r12 μ11)) X)))) ∧ (a4 = 0 → (wp_X2_statesAfter k2 μ4 a2 a3 (fun (r15 : Int32) => Q r15 μ4)))) X) X) X
  refine f_X9_machineAt μ a1 (fun k2 μ1 hk476 hf477 => ?_) (fun E9 μ9 e9 f9 => hX E9 μ9 (ex_sub (by decide) e9) (Fr.trans (Fr.rf) (Fr.up (by decide) f9)))
  refine f_X9_checkWord μ1 a2 a3 (fun μ3 hf478 => ?_) (fun E9 μ9 e9 f9 => hX E9 μ9 (ex_sub (by decide) e9) (Fr.trans (Fr.trans (Fr.rf) (Fr.up (by decide) hf477)) (Fr.up (by decide) f9)))
  refine f_X9_checkRange μ3 a4 (0 : Int32) (2 : Int32) (fun μ4 hf479 => ?_) (fun E9 μ9 e9 f9 => hX E9 μ9 (ex_sub (by decide) e9) (Fr.trans (Fr.trans (Fr.trans (Fr.rf) (Fr.up (by decide) hf477)) (Fr.up (by decide) hf478)) (Fr.up (by decide) f9)))
  refine ⟨fun c480 => ?_, fun c481 => ?_⟩
  · refine ⟨fun c482 => ?_, fun c483 => ?_⟩
    · refine f_X9_makeOrThrow k2 hk476 57 rfl μ4 (0 : Int32) (fun μ7 hf484 => ?_) (fun E9 μ9 e9 f9 => hX E9 μ9 (ex_sub (by decide) e9) (Fr.trans (Fr.trans (Fr.trans (Fr.trans (Fr.rf) (Fr.up (by decide) hf477)) (Fr.up (by decide) hf478)) (Fr.up (by decide) hf479)) (Fr.up (by decide) f9)))
      refine f_X5_stateAfter 57 rfl μ7 a2 a3 (fun r8 => ?_)
      exact h _ _ (Fr.trans (Fr.trans (Fr.trans (Fr.trans (Fr.rf) (Fr.up (by decide) hf477)) (Fr.up (by decide) hf478)) (Fr.up (by decide) hf479)) (Fr.up (by decide) hf484))
    · refine f_X9_makeOrThrow k2 hk476 57 rfl μ4 (3 : Int32) (fun μ11 hf485 => ?_) (fun E9 μ9 e9 f9 => hX E9 μ9 (ex_sub (by decide) e9) (Fr.trans (Fr.trans (Fr.trans (Fr.trans (Fr.rf) (Fr.up (by decide) hf477)) (Fr.up (by decide) hf478)) (Fr.up (by decide) hf479)) (Fr.up (by decide) f9)))
      refine f_X5_stateAfter 57 rfl μ11 a2 a3 (fun r12 => ?_)
      exact h _ _ (Fr.trans (Fr.trans (Fr.trans (Fr.trans (Fr.rf) (Fr.up (by decide) hf477)) (Fr.up (by decide) hf478)) (Fr.up (by decide) hf479)) (Fr.up (by decide) hf485))
  · refine f_X2_statesAfter k2 hk476 μ4 a2 a3 (fun r15 => ?_)
    exact h _ _ (Fr.trans (Fr.trans (Fr.trans (Fr.rf) (Fr.up (by decide) hf477)) (Fr.up (by decide) hf478)) (Fr.up (by decide) hf479))
end
/-! part 87.t4 -/
section
set_option maxHeartbeats 2000000 in
theorem f_X9_size (μ : TMem) (a1 : Int32) (a2 : Int32) {Q : Int32 → TMem → Prop} {X : String → TMem → Prop} (h : ∀ (r : Int32) (μ9 : TMem), Fr 2 μ μ9 → Q r μ9) (hX : ∀ (E : String) (μ9 : TMem), E ∈ ex_IAS → Fr 2 μ μ9 → X E μ9) : wp_X9_size μ a1 a2 Q X := by
  show wp_X9_machineAt μ a1 (fun (k2 : Nat) (μ1 : TMem) => wp_X9_checkRange μ1 a2 (0 : Int32) (3 : Int32) (fun (μ3 : TMem) => wp_X9_makeOrThrow k2 57 μ3 a2 (fun (μ4 : TMem) => Q (μ4 57 1) μ4) X) X) X
  refine f_X9_machineAt μ a1 (fun k2 μ1 hk486 hf487 => ?_) (fun E9 μ9 e9 f9 => hX E9 μ9 (ex_sub (by decide) e9) (Fr.trans (Fr.rf) (Fr.up (by decide) f9)))
  refine f_X9_checkRange μ1 a2 (0 : Int32) (3 : Int32) (fun μ3 hf488 => ?_) (fun E9 μ9 e9 f9 => hX E9 μ9 (ex_sub (by decide) e9) (Fr.trans (Fr.trans (Fr.rf) (Fr.up (by decide) hf487)) (Fr.up (by decide) f9)))
  refine f_X9_makeOrThrow k2 hk486 57 rfl μ3 a2 (fun μ4 hf489 => ?_) (fun E9 μ9 e9 f9 => hX E9 μ9 (ex_sub (by decide) e9) (Fr.trans (Fr.trans (Fr.trans (Fr.rf) (Fr.up (by decide) hf487)) (Fr.up (by decide) hf488)) (Fr.up (by decide) f9)))
  exact h _ _ (Fr.trans (Fr.trans (Fr.trans (Fr.rf) (Fr.up (by decide) hf487)) (Fr.up (by decide) hf488)) (Fr.up (by decide) hf489))
set_option maxHeartbeats 2000000 in
theorem f_X9_kind (μ : TMem) (a1 : Int32) {Q : Int32 → TMem → Prop} {X : String → TMem → Prop} (h : ∀ (r : Int32) (μ9 : TMem), Fr 2 μ μ9 → Q r μ9) (hX : ∀ (E : String) (μ9 : TMem), E ∈ ex_IS → Fr 2 μ μ9 → X E μ9) : wp_X9_kind μ a1 Q X := by
  show wp_X9_machineAt μ a1 (fun (k2 : Nat) (μ1 : TMem) => wp_X9_makeOrThrow k2 57 μ1 (0 : Int32) (fun (μ3 : TMem) => (¬ (μ3 57 1) = (1 : Int32) → (wp_X5_isTakingLongOnes 57 μ3 (fun (r5 : Int32) => (r5 = 0 → (Q (2 : Int32) μ3)) ∧ (¬ r5 = 0 → (Q (3 : Int32) μ3))))) ∧ ((μ3 57 1) = (1 : Int32) → (wp_X5_isGoal 57 μ3 (0 : Int32) (fun (r9 : Int32) => (r9 = 0 → (Q (0 : Int32) μ3)) ∧ (¬ r9 = 0 → (Q (1 : Int32) μ3)))))) X) X
  refine f_X9_machineAt μ a1 (fun k2 μ1 hk490 hf491 => ?_) (fun E9 μ9 e9 f9 => hX E9 μ9 (ex_sub (by decide) e9) (Fr.trans (Fr.rf) (Fr.up (by decide) f9)))
  refine f_X9_makeOrThrow k2 hk490 57 rfl μ1 (0 : Int32) (fun μ3 hf492 => ?_) (fun E9 μ9 e9 f9 => hX E9 μ9 (ex_sub (by decide) e9) (Fr.trans (Fr.trans (Fr.rf) (Fr.up (by decide) hf491)) (Fr.up (by decide) f9)))
  refine ⟨fun c493 => ?_, fun c494 => ?_⟩
  · refine f_X5_isTakingLongOnes 57 rfl μ3 (fun r5 b495 => ?_)
    refine ⟨fun c496 => ?_, fun c497 => ?_⟩
    · exact h _ _ (Fr.trans (Fr.trans (Fr.rf) (Fr.up (by decide) hf491)) (Fr.up (by decide) hf492))
    · exact h _ _ (Fr.trans (Fr.trans (Fr.rf) (Fr.up (by decide) hf491)) (Fr.up (by decide) hf492))
  · refine f_X5_isGoal 57 rfl μ3 (0 : Int32) (fun r9 b498 => ?_)
    refine ⟨fun c499 => ?_, fun c500 => ?_⟩
    · exact h _ _ (Fr.trans (Fr.trans (Fr.rf) (Fr.up (by decide) hf491)) (Fr.up (by decide) hf492))
    · exact h _ _ (Fr.trans (Fr.trans (Fr.rf) (Fr.up (by decide) hf491)) (Fr.up (by decide) hf492))
set_option maxHeartbeats 2000000 in
theorem f_X9_many (μ : TMem) (a1 : Int32) (a2 : Int32) (a3 : Int32) {Q : Int32 → TMem → Prop} {X : String → TMem → Prop} (h : ∀ (r : Int32) (μ9 : TMem), Fr 2 μ μ9 → Q r μ9) (hX : ∀ (E : String) (μ9 : TMem), E ∈ ex_IAS → Fr 2 μ μ9 → X E μ9) : wp_X9_many μ a1 a2 a3 Q X := by
  show wp_X9_machineAt μ a1 (fun (k2 : Nat) (μ1 : TMem) => wp_X9_checkRange μ1 a3 (0 : Int32) (1 : Int32) (fun (μ3 : TMem) => (¬ a3 = (1 : Int32) → (wp_X9_checkRange μ3 a2 (0 : Int32) (12 : Int32) (fun (μ5 : TMem) => (¬ a3 = (1 : Int32) → (wp_X9_makeOrThrow k2 57 μ5 (0 : Int32) (fun (μ7 : TMem) => wp_X8_count 57 μ7 (fun (μ8 : TMem) => wp_X8_from μ8 (0 : Int32) a2 (fun (r9 : Int32) => Q r9 μ8))) X)) ∧ (a3 = (1 : Int32) → (wp_X2_countOneByOne k2 μ5 a2 (fun (r12 : Int32) => Q r12 μ5)))) X)) ∧ (a3 = (1 : Int32) → (wp_X9_checkRange μ3 a2 (0 : Int32) (5 : Int32) (fun (μ15 : TMem) => (¬ a3 = (1 : Int32) → (wp_X9_makeOrThrow k2 57 μ15 (0 : Int32) (fun (μ17 : TMem) => wp_X8_count 57 μ17 (fun (μ18 : TMem) => wp_X8_from μ18 (0 : Int32) a2 (fun (r19 : Int32) => Q r19 μ18))) X)) ∧ (a3 = (1 : Int32) → (wp_X2_countOneByOne k2 μ15 a2 (fun (r22 : Int32) => Q r22 μ15)))) X))) X) X
  refine f_X9_machineAt μ a1 (fun k2 μ1 hk501 hf502 => ?_) (fun E9 μ9 e9 f9 => hX E9 μ9 (ex_sub (by decide) e9) (Fr.trans (Fr.rf) (Fr.up (by decide) f9)))
  refine f_X9_checkRange μ1 a3 (0 : Int32) (1 : Int32) (fun μ3 hf503 => ?_) (fun E9 μ9 e9 f9 => hX E9 μ9 (ex_sub (by decide) e9) (Fr.trans (Fr.trans (Fr.rf) (Fr.up (by decide) hf502)) (Fr.up (by decide) f9)))
  refine ⟨fun c504 => ?_, fun c505 => ?_⟩
  · refine f_X9_checkRange μ3 a2 (0 : Int32) (12 : Int32) (fun μ5 hf506 => ?_) (fun E9 μ9 e9 f9 => hX E9 μ9 (ex_sub (by decide) e9) (Fr.trans (Fr.trans (Fr.trans (Fr.rf) (Fr.up (by decide) hf502)) (Fr.up (by decide) hf503)) (Fr.up (by decide) f9)))
    refine ⟨fun c507 => ?_, fun c508 => ?_⟩
    · refine f_X9_makeOrThrow k2 hk501 57 rfl μ5 (0 : Int32) (fun μ7 hf509 => ?_) (fun E9 μ9 e9 f9 => hX E9 μ9 (ex_sub (by decide) e9) (Fr.trans (Fr.trans (Fr.trans (Fr.trans (Fr.rf) (Fr.up (by decide) hf502)) (Fr.up (by decide) hf503)) (Fr.up (by decide) hf506)) (Fr.up (by decide) f9)))
      refine f_X8_count 57 rfl μ7 (fun μ8 hf510 => ?_)
      refine f_X8_from μ8 (0 : Int32) a2 (fun r9 => ?_)
      exact h _ _ (Fr.trans (Fr.trans (Fr.trans (Fr.trans (Fr.trans (Fr.rf) (Fr.up (by decide) hf502)) (Fr.up (by decide) hf503)) (Fr.up (by decide) hf506)) (Fr.up (by decide) hf509)) (Fr.up (by decide) hf510))
    · refine f_X2_countOneByOne k2 hk501 μ5 a2 (fun r12 => ?_)
      exact h _ _ (Fr.trans (Fr.trans (Fr.trans (Fr.rf) (Fr.up (by decide) hf502)) (Fr.up (by decide) hf503)) (Fr.up (by decide) hf506))
  · refine f_X9_checkRange μ3 a2 (0 : Int32) (5 : Int32) (fun μ15 hf511 => ?_) (fun E9 μ9 e9 f9 => hX E9 μ9 (ex_sub (by decide) e9) (Fr.trans (Fr.trans (Fr.trans (Fr.rf) (Fr.up (by decide) hf502)) (Fr.up (by decide) hf503)) (Fr.up (by decide) f9)))
    refine ⟨fun c512 => ?_, fun c513 => ?_⟩
    · refine f_X9_makeOrThrow k2 hk501 57 rfl μ15 (0 : Int32) (fun μ17 hf514 => ?_) (fun E9 μ9 e9 f9 => hX E9 μ9 (ex_sub (by decide) e9) (Fr.trans (Fr.trans (Fr.trans (Fr.trans (Fr.rf) (Fr.up (by decide) hf502)) (Fr.up (by decide) hf503)) (Fr.up (by decide) hf511)) (Fr.up (by decide) f9)))
      refine f_X8_count 57 rfl μ17 (fun μ18 hf515 => ?_)
      refine f_X8_from μ18 (0 : Int32) a2 (fun r19 => ?_)
      exact h _ _ (Fr.trans (Fr.trans (Fr.trans (Fr.trans (Fr.trans (Fr.rf) (Fr.up (by decide) hf502)) (Fr.up (by decide) hf503)) (Fr.up (by decide) hf511)) (Fr.up (by decide) hf514)) (Fr.up (by decide) hf515))
    · refine f_X2_countOneByOne k2 hk501 μ15 a2 (fun r22 => ?_)
      exact h _ _ (Fr.trans (Fr.trans (Fr.trans (Fr.rf) (Fr.up (by decide) hf502)) (Fr.up (by decide) hf503)) (Fr.up (by decide) hf511))
set_option maxHeartbeats 2000000 in
theorem f_X9_meetOrThrow (k1 : Nat) (hk1 : kd k1 = 2) (k2 : Nat) (hk2 : kd k2 = 2) (μ : TMem)  {Q : TMem → Prop} {X : String → TMem → Prop} (h : ∀ μ9 : TMem, Fr 2 μ μ9 → Q μ9) (hX : ∀ (E : String) (μ9 : TMem), E ∈ ex_S → Fr 2 μ μ9 → X E μ9) : wp_X9_meetOrThrow k1 k2 μ Q X := by
  show wp_X9_meetPairs k1 k2 μ (200 : Int32) (0 : Int32) (fun (r2 : Int32) (μ1 : TMem) => (¬ r2 = 0 → (Q μ1)) ∧ (r2 = 0 → (X "java/lang/IllegalStateException" μ1)))
  refine f_X9_meetPairs k1 hk1 k2 hk2 μ (200 : Int32) (0 : Int32) (fun r2 μ1 b516 hf517 => ?_)
  refine ⟨fun c518 => ?_, fun c519 => ?_⟩
  · exact h _ (Fr.trans (Fr.rf) (Fr.up (by decide) hf517))
  · exact hX _ _ (by decide) (Fr.trans (Fr.rf) (Fr.up (by decide) hf517))
set_option maxHeartbeats 2000000 in
theorem f_X9_isAlike (μ : TMem) (a1 : Int32) (a2 : Int32) (a3 : Int32) {Q : Int32 → TMem → Prop} {X : String → TMem → Prop} (h : ∀ (r : Int32) (μ9 : TMem), isB r → Fr 2 μ μ9 → Q r μ9) (hX : ∀ (E : String) (μ9 : TMem), E ∈ ex_IAS → Fr 2 μ μ9 → X E μ9) : wp_X9_isAlike μ a1 a2 a3 Q X := by
  show wp_X9_machineAt μ a1 (fun (k2 : Nat) (μ1 : TMem) => wp_X9_machineAt μ1 a2 (fun (k4 : Nat) (μ3 : TMem) => wp_X9_checkRange μ3 a3 (0 : Int32) (1 : Int32) (fun (μ5 : TMem) => (¬ a3 = 0 → (wp_X9_makeOrThrow k2 51 μ5 (0 : Int32) (fun (μ7 : TMem) => wp_X9_makeOrThrow k4 53 μ7 (0 : Int32) (fun (μ8 : TMem) => wp_X5_isSameAs 51 53 μ8 (fun (r9 : Int32) => isB r9 ∧ Q r9 μ8)) X) X)) ∧ (a3 = 0 → (wp_X9_meetOrThrow k2 k4 μ5 (fun (μ13 : TMem) => (¬ (μ13 35 9) = (-1 : Int32) → (Q (0 : Int32) μ13)) ∧ ((μ13 35 9) = (-1 : Int32) → (Q (1 : Int32) μ13))) X))) X) X) X
  refine f_X9_machineAt μ a1 (fun k2 μ1 hk520 hf521 => ?_) (fun E9 μ9 e9 f9 => hX E9 μ9 (ex_sub (by decide) e9) (Fr.trans (Fr.rf) (Fr.up (by decide) f9)))
  refine f_X9_machineAt μ1 a2 (fun k4 μ3 hk522 hf523 => ?_) (fun E9 μ9 e9 f9 => hX E9 μ9 (ex_sub (by decide) e9) (Fr.trans (Fr.trans (Fr.rf) (Fr.up (by decide) hf521)) (Fr.up (by decide) f9)))
  refine f_X9_checkRange μ3 a3 (0 : Int32) (1 : Int32) (fun μ5 hf524 => ?_) (fun E9 μ9 e9 f9 => hX E9 μ9 (ex_sub (by decide) e9) (Fr.trans (Fr.trans (Fr.trans (Fr.rf) (Fr.up (by decide) hf521)) (Fr.up (by decide) hf523)) (Fr.up (by decide) f9)))
  refine ⟨fun c525 => ?_, fun c526 => ?_⟩
  · refine f_X9_makeOrThrow k2 hk520 51 rfl μ5 (0 : Int32) (fun μ7 hf527 => ?_) (fun E9 μ9 e9 f9 => hX E9 μ9 (ex_sub (by decide) e9) (Fr.trans (Fr.trans (Fr.trans (Fr.trans (Fr.rf) (Fr.up (by decide) hf521)) (Fr.up (by decide) hf523)) (Fr.up (by decide) hf524)) (Fr.up (by decide) f9)))
    refine f_X9_makeOrThrow k4 hk522 53 rfl μ7 (0 : Int32) (fun μ8 hf528 => ?_) (fun E9 μ9 e9 f9 => hX E9 μ9 (ex_sub (by decide) e9) (Fr.trans (Fr.trans (Fr.trans (Fr.trans (Fr.trans (Fr.rf) (Fr.up (by decide) hf521)) (Fr.up (by decide) hf523)) (Fr.up (by decide) hf524)) (Fr.up (by decide) hf527)) (Fr.up (by decide) f9)))
    refine f_X5_isSameAs 51 rfl 53 rfl μ8 (fun r9 b529 => ?_)
    refine ⟨(by first | assumption | exact Or.inl rfl | exact Or.inr rfl | exact isB_or (by assumption) (by first | assumption | exact Or.inl rfl | exact Or.inr rfl)), ?_⟩
    exact h _ _ (by first | assumption | exact Or.inl rfl | exact Or.inr rfl | exact isB_or (by assumption) (by first | assumption | exact Or.inl rfl | exact Or.inr rfl)) (Fr.trans (Fr.trans (Fr.trans (Fr.trans (Fr.trans (Fr.rf) (Fr.up (by decide) hf521)) (Fr.up (by decide) hf523)) (Fr.up (by decide) hf524)) (Fr.up (by decide) hf527)) (Fr.up (by decide) hf528))
  · refine f_X9_meetOrThrow k2 hk520 k4 hk522 μ5 (fun μ13 hf530 => ?_) (fun E9 μ9 e9 f9 => hX E9 μ9 (ex_sub (by decide) e9) (Fr.trans (Fr.trans (Fr.trans (Fr.trans (Fr.rf) (Fr.up (by decide) hf521)) (Fr.up (by decide) hf523)) (Fr.up (by decide) hf524)) (Fr.up (by decide) f9)))
    refine ⟨fun c531 => ?_, fun c532 => ?_⟩
    · exact h _ _ (by first | assumption | exact Or.inl rfl | exact Or.inr rfl | exact isB_or (by assumption) (by first | assumption | exact Or.inl rfl | exact Or.inr rfl)) (Fr.trans (Fr.trans (Fr.trans (Fr.trans (Fr.rf) (Fr.up (by decide) hf521)) (Fr.up (by decide) hf523)) (Fr.up (by decide) hf524)) (Fr.up (by decide) hf530))
    · exact h _ _ (by first | assumption | exact Or.inl rfl | exact Or.inr rfl | exact isB_or (by assumption) (by first | assumption | exact Or.inl rfl | exact Or.inr rfl)) (Fr.trans (Fr.trans (Fr.trans (Fr.trans (Fr.rf) (Fr.up (by decide) hf521)) (Fr.up (by decide) hf523)) (Fr.up (by decide) hf524)) (Fr.up (by decide) hf530))
set_option maxHeartbeats 2000000 in
theorem f_X9_pairs (μ : TMem) (a1 : Int32) (a2 : Int32) {Q : Int32 → TMem → Prop} {X : String → TMem → Prop} (h : ∀ (r : Int32) (μ9 : TMem), Fr 2 μ μ9 → Q r μ9) (hX : ∀ (E : String) (μ9 : TMem), E ∈ ex_IS → Fr 2 μ μ9 → X E μ9) : wp_X9_pairs μ a1 a2 Q X := by
  show wp_X9_machineAt μ a1 (fun (k2 : Nat) (μ1 : TMem) => wp_X9_machineAt μ1 a2 (fun (k4 : Nat) (μ3 : TMem) => wp_X9_meetOrThrow k2 k4 μ3 (fun (μ5 : TMem) => Q (μ5 35 8) μ5) X) X) X
  refine f_X9_machineAt μ a1 (fun k2 μ1 hk533 hf534 => ?_) (fun E9 μ9 e9 f9 => hX E9 μ9 (ex_sub (by decide) e9) (Fr.trans (Fr.rf) (Fr.up (by decide) f9)))
  refine f_X9_machineAt μ1 a2 (fun k4 μ3 hk535 hf536 => ?_) (fun E9 μ9 e9 f9 => hX E9 μ9 (ex_sub (by decide) e9) (Fr.trans (Fr.trans (Fr.rf) (Fr.up (by decide) hf534)) (Fr.up (by decide) f9)))
  refine f_X9_meetOrThrow k2 hk533 k4 hk535 μ3 (fun μ5 hf537 => ?_) (fun E9 μ9 e9 f9 => hX E9 μ9 (ex_sub (by decide) e9) (Fr.trans (Fr.trans (Fr.trans (Fr.rf) (Fr.up (by decide) hf534)) (Fr.up (by decide) hf536)) (Fr.up (by decide) f9)))
  exact h _ _ (Fr.trans (Fr.trans (Fr.trans (Fr.rf) (Fr.up (by decide) hf534)) (Fr.up (by decide) hf536)) (Fr.up (by decide) hf537))
set_option maxHeartbeats 2000000 in
theorem f_X9_together (μ : TMem) (a1 : Int32) (a2 : Int32) (a3 : Int32) (a4 : Int32) {Q : Int32 → TMem → Prop} {X : String → TMem → Prop} (h : ∀ (r : Int32) (μ9 : TMem), Fr 2 μ μ9 → Q r μ9) (hX : ∀ (E : String) (μ9 : TMem), E ∈ ex_IAS → Fr 2 μ μ9 → X E μ9) : wp_X9_together μ a1 a2 a3 a4 Q X := by
  show wp_X9_machineAt μ a1 (fun (k2 : Nat) (μ1 : TMem) => wp_X9_machineAt μ1 a2 (fun (k4 : Nat) (μ3 : TMem) => wp_X9_checkRange μ3 a3 (0 : Int32) (3 : Int32) (fun (μ5 : TMem) => wp_X9_checkRange μ5 a4 (-1 : Int32) (12 : Int32) (fun (μ6 : TMem) => wp_X9_putTogether k2 k4 μ6 a3 (fun (r8 : Int32) (μ7 : TMem) => (¬ r8 = 0 → ((¬ a4 = (-1 : Int32) → (wp_X8_count 57 μ7 (fun (μ11 : TMem) => wp_X8_from μ11 (0 : Int32) a4 (fun (r12 : Int32) => Q r12 μ11)))) ∧ (a4 = (-1 : Int32) → (Q (μ7 57 1) μ7)))) ∧ (r8 = 0 → (X "java/lang/IllegalStateException" μ7)))) X) X) X) X
  refine f_X9_machineAt μ a1 (fun k2 μ1 hk538 hf539 => ?_) (fun E9 μ9 e9 f9 => hX E9 μ9 (ex_sub (by decide) e9) (Fr.trans (Fr.rf) (Fr.up (by decide) f9)))
  refine f_X9_machineAt μ1 a2 (fun k4 μ3 hk540 hf541 => ?_) (fun E9 μ9 e9 f9 => hX E9 μ9 (ex_sub (by decide) e9) (Fr.trans (Fr.trans (Fr.rf) (Fr.up (by decide) hf539)) (Fr.up (by decide) f9)))
  refine f_X9_checkRange μ3 a3 (0 : Int32) (3 : Int32) (fun μ5 hf542 => ?_) (fun E9 μ9 e9 f9 => hX E9 μ9 (ex_sub (by decide) e9) (Fr.trans (Fr.trans (Fr.trans (Fr.rf) (Fr.up (by decide) hf539)) (Fr.up (by decide) hf541)) (Fr.up (by decide) f9)))
  refine f_X9_checkRange μ5 a4 (-1 : Int32) (12 : Int32) (fun μ6 hf543 => ?_) (fun E9 μ9 e9 f9 => hX E9 μ9 (ex_sub (by decide) e9) (Fr.trans (Fr.trans (Fr.trans (Fr.trans (Fr.rf) (Fr.up (by decide) hf539)) (Fr.up (by decide) hf541)) (Fr.up (by decide) hf542)) (Fr.up (by decide) f9)))
  refine f_X9_putTogether k2 hk538 k4 hk540 μ6 a3 (fun r8 μ7 b544 hf545 => ?_)
  refine ⟨fun c546 => ?_, fun c547 => ?_⟩
  · refine ⟨fun c548 => ?_, fun c549 => ?_⟩
    · refine f_X8_count 57 rfl μ7 (fun μ11 hf550 => ?_)
      refine f_X8_from μ11 (0 : Int32) a4 (fun r12 => ?_)
      exact h _ _ (Fr.trans (Fr.trans (Fr.trans (Fr.trans (Fr.trans (Fr.trans (Fr.rf) (Fr.up (by decide) hf539)) (Fr.up (by decide) hf541)) (Fr.up (by decide) hf542)) (Fr.up (by decide) hf543)) (Fr.up (by decide) hf545)) (Fr.up (by decide) hf550))
    · exact h _ _ (Fr.trans (Fr.trans (Fr.trans (Fr.trans (Fr.trans (Fr.rf) (Fr.up (by decide) hf539)) (Fr.up (by decide) hf541)) (Fr.up (by decide) hf542)) (Fr.up (by decide) hf543)) (Fr.up (by decide) hf545))
  · exact hX _ _ (by decide) (Fr.trans (Fr.trans (Fr.trans (Fr.trans (Fr.trans (Fr.rf) (Fr.up (by decide) hf539)) (Fr.up (by decide) hf541)) (Fr.up (by decide) hf542)) (Fr.up (by decide) hf543)) (Fr.up (by decide) hf545))
set_option maxHeartbeats 2000000 in
theorem f_X9_house (μ : TMem) (a1 : Int32) {Q : Int32 → TMem → Prop} {X : String → TMem → Prop} (h : ∀ (r : Int32) (μ9 : TMem), Fr 0 μ μ9 → Q r μ9) (hX : ∀ (E : String) (μ9 : TMem), E ∈ ex_A → Fr 0 μ μ9 → X E μ9) : wp_X9_house μ a1 Q X := by
  show wp_X9_checkRange μ a1 (0 : Int32) (2 : Int32) (fun (μ1 : TMem) => (a1 = (0 : Int32) → (Q (μ1 0 11) μ1)) ∧ (¬ a1 = (0 : Int32) → (a1 = (1 : Int32) → (Q (μ1 0 12) μ1)) ∧ (¬ a1 = (1 : Int32) → (Q (μ1 0 13) μ1)))) X
  refine f_X9_checkRange μ a1 (0 : Int32) (2 : Int32) (fun μ1 hf551 => ?_) (fun E9 μ9 e9 f9 => hX E9 μ9 e9 (Fr.trans (Fr.rf) (Fr.up (by decide) f9)))
  refine ⟨fun c552 => ?_, fun c553 => ?_⟩
  · exact h _ _ (Fr.trans (Fr.rf) (Fr.up (by decide) hf551))
  · refine ⟨fun c554 => ?_, fun c555 => ?_⟩
    · exact h _ _ (Fr.trans (Fr.rf) (Fr.up (by decide) hf551))
    · exact h _ _ (Fr.trans (Fr.rf) (Fr.up (by decide) hf551))
set_option maxHeartbeats 2000000 in
theorem f_X9_isSound (μ : TMem)  {Q : Int32 → TMem → Prop} {X : String → TMem → Prop} (h : ∀ (r : Int32) (μ9 : TMem), isB r → Fr 2 μ μ9 → Q r μ9) (hX : ∀ (E : String) (μ9 : TMem), E ∈ ex_ → Fr 2 μ μ9 → X E μ9) : wp_X9_isSound μ Q X := by
  show wp_X9_machineAt μ (0 : Int32) (fun (k2 : Nat) (μ1 : TMem) => wp_X3_makeBy k2 57 μ1 (0 : Int32) (fun (r4 : Int32) (μ3 : TMem) => (¬ r4 = 0 → (wp_X3_makeBy k2 51 μ3 (1 : Int32) (fun (r7 : Int32) (μ6 : TMem) => (r7 = 0 → (Q (0 : Int32) μ6)) ∧ (¬ r7 = 0 → (wp_X5_isSameAs 51 57 μ6 (fun (r9 : Int32) => (¬ r9 = 0 → (wp_X3_makeBy k2 51 μ6 (2 : Int32) (fun (r14 : Int32) (μ13 : TMem) => (r14 = 0 → (wp_X2_becomePlain 12 57 μ13 (fun (μ16 : TMem) => wp_X3_makeBy 12 51 μ16 (0 : Int32) (fun (r18 : Int32) (μ17 : TMem) => (r18 = 0 → (Q (0 : Int32) μ17)) ∧ (¬ r18 = 0 → (wp_X5_isSameAs 51 57 μ17 (fun (r20 : Int32) => (¬ r20 = 0 → (wp_X9_isTakingTheSame k2 μ17 (fun (r24 : Int32) => isB r24 ∧ Q r24 μ17))) ∧ (r20 = 0 → (Q (0 : Int32) μ17))))))))) ∧ (¬ r14 = 0 → (wp_X5_isSameAs 51 57 μ13 (fun (r28 : Int32) => (¬ r28 = 0 → (wp_X2_becomePlain 12 57 μ13 (fun (μ32 : TMem) => wp_X3_makeBy 12 51 μ32 (0 : Int32) (fun (r34 : Int32) (μ33 : TMem) => (r34 = 0 → (Q (0 : Int32) μ33)) ∧ (¬ r34 = 0 → (wp_X5_isSameAs 51 57 μ33 (fun (r36 : Int32) => (¬ r36 = 0 → (wp_X9_isTakingTheSame k2 μ33 (fun (r40 : Int32) => isB r40 ∧ Q r40 μ33))) ∧ (r36 = 0 → (Q (0 : Int32) μ33))))))))) ∧ (r28 = 0 → (Q (0 : Int32) μ13)))))))) ∧ (r9 = 0 → (Q (0 : Int32) μ6)))))))) ∧ (r4 = 0 → (Q (1 : Int32) μ3)))) X
  refine f_machineAt0 μ (fun k2 μ1 hk556 hf557 => ?_)
  refine f_X3_makeBy k2 hk556 57 rfl μ1 (0 : Int32) (fun r4 μ3 b558 hf559 => ?_)
  refine ⟨fun c560 => ?_, fun c561 => ?_⟩
  · refine f_X3_makeBy k2 hk556 51 rfl μ3 (1 : Int32) (fun r7 μ6 b562 hf563 => ?_)
    refine ⟨fun c564 => ?_, fun c565 => ?_⟩
    · exact h _ _ (by first | assumption | exact Or.inl rfl | exact Or.inr rfl | exact isB_or (by assumption) (by first | assumption | exact Or.inl rfl | exact Or.inr rfl)) (Fr.trans (Fr.trans (Fr.trans (Fr.rf) (Fr.up (by decide) hf557)) (Fr.up (by decide) hf559)) (Fr.up (by decide) hf563))
    · refine f_X5_isSameAs 51 rfl 57 rfl μ6 (fun r9 b566 => ?_)
      refine ⟨fun c567 => ?_, fun c568 => ?_⟩
      · refine f_X3_makeBy k2 hk556 51 rfl μ6 (2 : Int32) (fun r14 μ13 b569 hf570 => ?_)
        refine ⟨fun c571 => ?_, fun c572 => ?_⟩
        · refine f_X2_becomePlain 12 rfl 57 rfl μ13 (fun μ16 hf573 => ?_)
          refine f_X3_makeBy 12 rfl 51 rfl μ16 (0 : Int32) (fun r18 μ17 b574 hf575 => ?_)
          refine ⟨fun c576 => ?_, fun c577 => ?_⟩
          · exact h _ _ (by first | assumption | exact Or.inl rfl | exact Or.inr rfl | exact isB_or (by assumption) (by first | assumption | exact Or.inl rfl | exact Or.inr rfl)) (Fr.trans (Fr.trans (Fr.trans (Fr.trans (Fr.trans (Fr.trans (Fr.rf) (Fr.up (by decide) hf557)) (Fr.up (by decide) hf559)) (Fr.up (by decide) hf563)) (Fr.up (by decide) hf570)) (Fr.up (by decide) hf573)) (Fr.up (by decide) hf575))
          · refine f_X5_isSameAs 51 rfl 57 rfl μ17 (fun r20 b578 => ?_)
            refine ⟨fun c579 => ?_, fun c580 => ?_⟩
            · refine f_X9_isTakingTheSame k2 hk556 μ17 (fun r24 b581 => ?_)
              refine ⟨(by first | assumption | exact Or.inl rfl | exact Or.inr rfl | exact isB_or (by assumption) (by first | assumption | exact Or.inl rfl | exact Or.inr rfl)), ?_⟩
              exact h _ _ (by first | assumption | exact Or.inl rfl | exact Or.inr rfl | exact isB_or (by assumption) (by first | assumption | exact Or.inl rfl | exact Or.inr rfl)) (Fr.trans (Fr.trans (Fr.trans (Fr.trans (Fr.trans (Fr.trans (Fr.rf) (Fr.up (by decide) hf557)) (Fr.up (by decide) hf559)) (Fr.up (by decide) hf563)) (Fr.up (by decide) hf570)) (Fr.up (by decide) hf573)) (Fr.up (by decide) hf575))
            · exact h _ _ (by first | assumption | exact Or.inl rfl | exact Or.inr rfl | exact isB_or (by assumption) (by first | assumption | exact Or.inl rfl | exact Or.inr rfl)) (Fr.trans (Fr.trans (Fr.trans (Fr.trans (Fr.trans (Fr.trans (Fr.rf) (Fr.up (by decide) hf557)) (Fr.up (by decide) hf559)) (Fr.up (by decide) hf563)) (Fr.up (by decide) hf570)) (Fr.up (by decide) hf573)) (Fr.up (by decide) hf575))
        · refine f_X5_isSameAs 51 rfl 57 rfl μ13 (fun r28 b582 => ?_)
          refine ⟨fun c583 => ?_, fun c584 => ?_⟩
          · refine f_X2_becomePlain 12 rfl 57 rfl μ13 (fun μ32 hf585 => ?_)
            refine f_X3_makeBy 12 rfl 51 rfl μ32 (0 : Int32) (fun r34 μ33 b586 hf587 => ?_)
            refine ⟨fun c588 => ?_, fun c589 => ?_⟩
            · exact h _ _ (by first | assumption | exact Or.inl rfl | exact Or.inr rfl | exact isB_or (by assumption) (by first | assumption | exact Or.inl rfl | exact Or.inr rfl)) (Fr.trans (Fr.trans (Fr.trans (Fr.trans (Fr.trans (Fr.trans (Fr.rf) (Fr.up (by decide) hf557)) (Fr.up (by decide) hf559)) (Fr.up (by decide) hf563)) (Fr.up (by decide) hf570)) (Fr.up (by decide) hf585)) (Fr.up (by decide) hf587))
            · refine f_X5_isSameAs 51 rfl 57 rfl μ33 (fun r36 b590 => ?_)
              refine ⟨fun c591 => ?_, fun c592 => ?_⟩
              · refine f_X9_isTakingTheSame k2 hk556 μ33 (fun r40 b593 => ?_)
                refine ⟨(by first | assumption | exact Or.inl rfl | exact Or.inr rfl | exact isB_or (by assumption) (by first | assumption | exact Or.inl rfl | exact Or.inr rfl)), ?_⟩
                exact h _ _ (by first | assumption | exact Or.inl rfl | exact Or.inr rfl | exact isB_or (by assumption) (by first | assumption | exact Or.inl rfl | exact Or.inr rfl)) (Fr.trans (Fr.trans (Fr.trans (Fr.trans (Fr.trans (Fr.trans (Fr.rf) (Fr.up (by decide) hf557)) (Fr.up (by decide) hf559)) (Fr.up (by decide) hf563)) (Fr.up (by decide) hf570)) (Fr.up (by decide) hf585)) (Fr.up (by decide) hf587))
              · exact h _ _ (by first | assumption | exact Or.inl rfl | exact Or.inr rfl | exact isB_or (by assumption) (by first | assumption | exact Or.inl rfl | exact Or.inr rfl)) (Fr.trans (Fr.trans (Fr.trans (Fr.trans (Fr.trans (Fr.trans (Fr.rf) (Fr.up (by decide) hf557)) (Fr.up (by decide) hf559)) (Fr.up (by decide) hf563)) (Fr.up (by decide) hf570)) (Fr.up (by decide) hf585)) (Fr.up (by decide) hf587))
          · exact h _ _ (by first | assumption | exact Or.inl rfl | exact Or.inr rfl | exact isB_or (by assumption) (by first | assumption | exact Or.inl rfl | exact Or.inr rfl)) (Fr.trans (Fr.trans (Fr.trans (Fr.trans (Fr.rf) (Fr.up (by decide) hf557)) (Fr.up (by decide) hf559)) (Fr.up (by decide) hf563)) (Fr.up (by decide) hf570))
      · exact h _ _ (by first | assumption | exact Or.inl rfl | exact Or.inr rfl | exact isB_or (by assumption) (by first | assumption | exact Or.inl rfl | exact Or.inr rfl)) (Fr.trans (Fr.trans (Fr.trans (Fr.rf) (Fr.up (by decide) hf557)) (Fr.up (by decide) hf559)) (Fr.up (by decide) hf563))
  · exact h _ _ (by first | assumption | exact Or.inl rfl | exact Or.inr rfl | exact isB_or (by assumption) (by first | assumption | exact Or.inl rfl | exact Or.inr rfl)) (Fr.trans (Fr.trans (Fr.rf) (Fr.up (by decide) hf557)) (Fr.up (by decide) hf559))
set_option maxHeartbeats 2000000 in
theorem fl_wpl_X9_digest_6 (μ : TMem) {K32 : Int64 → Prop} (hK32 : ∀ (u0 : Int64), K32 u0) : ∀ (n : Nat) (v2 : Int32) (v3 : Int64), (((4 : Int32)).toInt - (v2).toInt).toNat < n → 0 ≤ (v2).toInt → wpl_X9_digest_6 μ K32 n v2 v3 := by
  intro n
  induction n with
  | zero => intro v2 v3 hm; exact absurd hm (Nat.not_lt_zero _)
  | succ n ih =>
    intro v2 v3 hm hi
    show ((4 : Int32) ≤ v2 → (K32 v3)) ∧ (¬ (4 : Int32) ≤ v2 → (vp_in v2 4 ∧ (wp_X9_addMachine (2 + 2 * v2.toNatClampNeg) μ v3 (fun (r6 : Int64) => wpl_X9_digest_6 μ K32 n (v2 + (1 : Int32)) r6))))
    refine ⟨fun c_ex => ?_, fun c_in => ?_⟩
    · exact hK32 v3
    have c_lt : ¬ ((4 : Int32)) ≤ v2 := c_in
    have hv594 : vp_in v2 4 := (by first | exact vp_a (by assumption) (by assumption) (tl_s _) | exact vp_b (by assumption) (by assumption) (tl_s _) | exact vp_a (n := 4) (by assumption) (by assumption) (by decide) | exact vp_b (n := 4) (by assumption) (by assumption) (by decide) | exact vp_c (by assumption) (by assumption))
    refine ⟨hv594, ?_⟩
    refine f_X9_addMachine (2 + 2 * v2.toNatClampNeg) (kd_ma _ (vp_lt (by assumption))) μ v3 (fun r6 => ?_)
    exact ih (v2 + (1 : Int32)) r6 (lt_m c_lt (by omega)) (lt_p (by assumption) c_lt)
set_option maxHeartbeats 2000000 in
theorem f_X9_digest (μ : TMem)  {Q : Int64 → TMem → Prop} {X : String → TMem → Prop} (h : ∀ (r : Int64) (μ9 : TMem), Fr 2 μ μ9 → Q r μ9) (hX : ∀ (E : String) (μ9 : TMem), E ∈ ex_ → Fr 2 μ μ9 → X E μ9) : wp_X9_digest μ Q X := by
  show ∃ n0x, wpl_X9_digest_6 μ (fun (u10 : Int64) => wp_X9_isSound μ (fun (r12 : Int32) (μ11 : TMem) => (r12 = 0 → (Q ((((((((u10 * (31 : Int64)) + (μ 0 11).toInt64) * (31 : Int64)) + (μ 0 12).toInt64) * (31 : Int64)) + (μ 0 13).toInt64) * (31 : Int64)) + (0 : Int32).toInt64) μ11)) ∧ (¬ r12 = 0 → (Q ((((((((u10 * (31 : Int64)) + (μ 0 11).toInt64) * (31 : Int64)) + (μ 0 12).toInt64) * (31 : Int64)) + (μ 0 13).toInt64) * (31 : Int64)) + (1 : Int32).toInt64) μ11))) X) n0x (0 : Int32) (8025 : Int64)
  refine ⟨_, fl_wpl_X9_digest_6 μ ?_ _ (0 : Int32) (8025 : Int64) (Nat.lt_succ_self _) (by first | decide | omega)⟩
  · intro u10
    refine f_X9_isSound μ (fun r12 μ11 b595 hf596 => ?_) (fun E9 μ9 e9 f9 => hX E9 μ9 e9 (Fr.trans (Fr.rf) (Fr.up (by decide) f9)))
    refine ⟨fun c597 => ?_, fun c598 => ?_⟩
    · exact h _ _ (Fr.trans (Fr.rf) (Fr.up (by decide) hf596))
    · exact h _ _ (Fr.trans (Fr.rf) (Fr.up (by decide) hf596))
end
