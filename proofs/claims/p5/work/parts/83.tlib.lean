section TOT
/-- what a level keeps: 0 all but arrays and the drawer; 1 states' numbers and the object itself; 2 the object itself; 3 its knocks; 4 nothing of that object's counters -/
def prot : Nat → Nat → Nat → Bool
  | 0, K, _ => !(K == 9 || K == 0)
  | 1, K, i => K == 8 || ((K == 2 || K == 5) && i == 1)
  | 2, K, _ => K == 8
  | 3, K, i => K == 8 && !(i == 11 || i == 12)
  | _, _, _ => false
/-- the signs by which pairs were met: NONE or a SIGN -/
def rng (x : Int32) : Prop := -1 ≤ x.toInt ∧ x.toInt ≤ 2
def GB (μ : TMem) : Prop := ∀ i, rng (μ 43 i)
def Fr (lv : Nat) (μ μ1 : TMem) : Prop := (∀ k i, prot lv (kd k) i = true → μ1 k i = μ k i) ∧ (GB μ → GB μ1)
theorem Fr.rf {lv : Nat} {μ : TMem} : Fr lv μ μ := ⟨fun _ _ _ => rfl, fun h => h⟩
theorem Fr.trans {lv : Nat} {a b c : TMem} (h1 : Fr lv a b) (h2 : Fr lv b c) : Fr lv a c := ⟨fun k i h => (h2.1 k i h).trans (h1.1 k i h), fun h => h2.2 (h1.2 h)⟩
theorem ne43 {k K : Nat} (h : kd k = K) (hK : K ≠ 9) : k ≠ 43 := fun e => hK (by rw [← h, e]; rfl)
theorem ne43b {k : Nat} (h : kd k = 2 ∨ kd k = 5) : k + 1 ≠ 43 := fun e => by
  obtain rfl : k = 42 := by omega
  exact h.elim (fun z => absurd z (by decide)) (fun z => absurd z (by decide))
theorem rng3 {x : Int32} (h0 : 0 ≤ x.toInt) (h : ¬ (3 : Int32) ≤ x) : rng x := by
  rw [Int32.le_iff_toInt_le, show (3 : Int32).toInt = 3 from rfl] at h
  exact ⟨by omega, by omega⟩
theorem prot_up {l1 l2 : Nat} (h : l1 ≤ l2) (K i : Nat) (hp : prot l2 K i = true) : prot l1 K i = true := by
  rcases l2 with _ | _ | _ | _ | l2 <;> rcases l1 with _ | _ | _ | _ | l1 <;> simp_all [prot] <;> omega
theorem Fr.up {l1 l2 : Nat} {a b : TMem} (h : l1 ≤ l2) (h1 : Fr l1 a b) : Fr l2 a b := ⟨fun k i hp => h1.1 k i (prot_up h _ _ hp), h1.2⟩
theorem Fr.st {lv : Nat} {a b : TMem} {k i : Nat} {v : Int32} (h : Fr lv a b) (hp : prot lv (kd k) i = false) (hk : k ≠ 43 ∨ rng v) : Fr lv a (tms b k i v) := ⟨fun k2 i2 h2 => by
  rw [← h.1 k2 i2 h2]
  by_cases e : k2 = k
  · subst e
    have hi : i2 ≠ i := fun z => by rw [z, hp] at h2; cases h2
    simp [tms, upd, hi]
  · simp [tms, e], fun g j => by
  have g2 := h.2 g j
  by_cases e : 43 = k
  · subst e
    by_cases e2 : j = i
    · subst e2
      have hv := hk.resolve_left (fun z => z rfl)
      simpa [tms, upd] using hv
    · simpa [tms, upd, e2] using g2
  · simpa [tms, e] using g2⟩
theorem isB_or {a b : Int32} (ha : isB a) (hb : isB b) : isB (a ||| b) := by
  rcases ha with rfl | rfl <;> rcases hb with rfl | rfl <;> first | exact Or.inl rfl | exact Or.inr rfl
theorem tl_s (k : Nat) : tl k < 2 ^ 31 := by
  by_cases h : k < 59
  · exact (show ∀ k, k < 59 → tl k < 2 ^ 31 by decide +kernel) k h
  · unfold tl
    rw [List.getD_eq_getElem?_getD, List.getElem?_eq_none (show tll.length ≤ k from Nat.not_lt.mp h)]
    decide
theorem vp_b {x : Int32} {n : Nat} (h0 : 0 ≤ x.toInt) (h : ¬ nI n ≤ x) (hn : n < 2 ^ 31) : vp_in x n := by
  rw [vp_in_iff]
  rw [Int32.le_iff_toInt_le, nI_toInt hn] at h
  omega
theorem vp_a {x : Int32} {n : Nat} (h0 : ¬ x < 0) (h : ¬ nI n ≤ x) (hn : n < 2 ^ 31) : vp_in x n := vp_b (by rw [Int32.lt_iff_toInt_lt, Int32.toInt_zero] at h0; omega) h hn
theorem vp_c {x : Int32} (h0 : ¬ x < 0) (h : x < (4 : Int32)) : vp_in x 4 := by
  rw [vp_in_iff]
  rw [Int32.lt_iff_toInt_lt] at h h0
  rw [Int32.toInt_zero] at h0
  have : (4 : Int32).toInt = 4 := by decide
  omega
theorem nz_le {x : Int32} (h : ¬ x ≤ 0) : ¬ x = 0 := fun e => h (by rw [e]; exact Int32.le_refl 0)
theorem nz_ch {x : Int32} (h : ¬ x < 0) : ¬ x + (1 : Int32) = 0 := fun e => h (by
  have : x = -1 := by
    have h1 : x + 1 - 1 = 0 - 1 := by rw [e]
    rw [Int32.add_sub_cancel] at h1
    exact h1
  rw [this]; decide)
theorem inc_t {x B : Int32} (h : ¬ B ≤ x) : (x + (1 : Int32)).toInt = x.toInt + 1 := by
  rw [Int32.le_iff_toInt_le] at h
  have h1 := B.toInt_lt
  have h2 := x.le_toInt
  rw [Int32.toInt_add, show (1 : Int32).toInt = 1 from by decide]
  exact Int.bmod_eq_of_le (by omega) (by omega)
theorem lt_m {x B : Int32} {n : Nat} (h : ¬ B ≤ x) (hm : (B.toInt - x.toInt).toNat < n + 1) : (B.toInt - (x + (1 : Int32)).toInt).toNat < n := by
  rw [inc_t h]
  rw [Int32.le_iff_toInt_le] at h
  omega
theorem lt_p {x B : Int32} (h0 : 0 ≤ x.toInt) (h : ¬ B ≤ x) : 0 ≤ (x + (1 : Int32)).toInt := by
  rw [inc_t h]
  omega
theorem inc_ts {x B : Int32} (h : ¬ B < x) (hB : B.toInt < 1000) : (x + (1 : Int32)).toInt = x.toInt + 1 := by
  rw [Int32.lt_iff_toInt_lt] at h
  have h2 := x.le_toInt
  rw [Int32.toInt_add, show (1 : Int32).toInt = 1 from by decide]
  exact Int.bmod_eq_of_le (by omega) (by omega)
theorem lt_ms {x B : Int32} {n : Nat} (h : ¬ B < x) (hB : B.toInt < 1000) (hm : (B.toInt + 1 - x.toInt).toNat < n + 1) : (B.toInt + 1 - (x + (1 : Int32)).toInt).toNat < n := by
  rw [inc_ts h hB]
  rw [Int32.lt_iff_toInt_lt] at h
  omega
theorem lt_ps {x B : Int32} (h0 : 0 ≤ x.toInt) (h : ¬ B < x) (hB : B.toInt < 1000) : 0 ≤ (x + (1 : Int32)).toInt := by
  rw [inc_ts h hB]
  omega
abbrev ex_ : List String := []
abbrev ex_I : List String := ["java/lang/IndexOutOfBoundsException"]
abbrev ex_A : List String := ["java/lang/IllegalArgumentException"]
abbrev ex_S : List String := ["java/lang/IllegalStateException"]
abbrev ex_IA : List String := ["java/lang/IndexOutOfBoundsException", "java/lang/IllegalArgumentException"]
abbrev ex_IS : List String := ["java/lang/IndexOutOfBoundsException", "java/lang/IllegalStateException"]
abbrev ex_IAS : List String := ["java/lang/IndexOutOfBoundsException", "java/lang/IllegalArgumentException", "java/lang/IllegalStateException"]
theorem ex_sub {a b : List String} {E : String} (h : ∀ x ∈ a, x ∈ b) (hE : E ∈ a) : E ∈ b := h E hE
theorem f_machineAt0 (μ : TMem) {Q : Nat → TMem → Prop} {X : String → TMem → Prop} (h : ∀ (r : Nat) (μ9 : TMem), kd r = 2 → Fr 0 μ μ9 → Q r μ9) : wp_X9_machineAt μ (0 : Int32) Q X := by
  show ((0 : Int32) < 0 → (X "java/lang/IndexOutOfBoundsException" μ)) ∧ (¬ (0 : Int32) < 0 → (((0 : Int32) < (4 : Int32) → (vp_in (0 : Int32) 4 ∧ (Q (2 + 2 * (0 : Int32).toNatClampNeg) μ))) ∧ (¬ (0 : Int32) < (4 : Int32) → (X "java/lang/IndexOutOfBoundsException" μ))))
  exact ⟨fun z => absurd z (by decide), fun _ => ⟨fun _ => ⟨vp_in_iff.mpr (by decide), h _ _ rfl Fr.rf⟩, fun z => absurd (by decide) z⟩⟩
end TOT
