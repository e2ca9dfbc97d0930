/-! part 9sa0.bits -/
section
section SBI
/-! numbers as naturals: nI for what counts, nn for what is a set (by its bits), ll for a set that is a long -/
theorem s_mul (a b : Nat) : nI a * nI b = nI (a * b) := (Int32.ofNat_mul a b).symm
theorem s_of {x : Int32} {a : Nat} (h : x.toInt = (a : Int)) (ha : a < 2 ^ 31) : x = nI a := l_eq.mpr (by rw [h, nI_toInt ha])
theorem s_ex {x : Int32} (h : 0 ≤ x.toInt) : ∃ a : Nat, a < 2 ^ 31 ∧ x = nI a := ⟨x.toInt.toNat, by have := x.toInt_lt; omega, s_of (by omega) (by have := x.toInt_lt; omega)⟩
theorem s_in {a n : Nat} (h : a < n) (ha : a < 2 ^ 31) : vp_in (nI a) n := vp_in_iff.mpr (by rw [nI_toInt ha]; omega)
theorem s_inv {a n : Nat} (h : vp_in (nI a) n) (ha : a < 2 ^ 31) : a < n := by
  rw [vp_in_iff, nI_toInt ha] at h
  omega
theorem s_sub {a b : Nat} (h : b ≤ a) (ha : a < 2 ^ 31) : nI a - nI b = nI (a - b) := by
  refine s_of ?_ (by omega)
  rw [ii_s (nI_toInt ha) (nI_toInt (by omega)) (by omega) (by omega)]
  omega
theorem s_div {a b : Nat} (hb : 0 < b) (ha : a < 2 ^ 31) (hb2 : b < 2 ^ 31) : nI a / nI b = nI (a / b) := by
  refine s_of ?_ (Nat.lt_of_le_of_lt (Nat.div_le_self a b) ha)
  rw [ii_d (nI_toInt ha) (nI_toInt hb2) (by omega) (by omega)]
  rfl
theorem s_mod {a b : Nat} (hb : 0 < b) (ha : a < 2 ^ 31) (hb2 : b < 2 ^ 31) : nI a - nI a / nI b * nI b = nI (a % b) := by
  have h1 := Nat.div_add_mod a b
  have h2 := Nat.div_mul_le_self a b
  rw [s_div hb ha hb2, s_mul, s_sub h2 ha]
  congr 1
  rw [Nat.mul_comm] at h1
  omega
def nn (x : Int32) : Nat := x.toBitVec.toNat
def ll (x : Int64) : Nat := x.toBitVec.toNat
theorem nn_inj {x y : Int32} (h : nn x = nn y) : x = y := Int32.toBitVec_inj.mp (BitVec.eq_of_toNat_eq h)
theorem ll_inj {x y : Int64} (h : ll x = ll y) : x = y := Int64.toBitVec_inj.mp (BitVec.eq_of_toNat_eq h)
theorem nn_eq {x y : Int32} : x = y ↔ nn x = nn y := ⟨fun h => h ▸ rfl, nn_inj⟩
theorem ll_eq {x y : Int64} : x = y ↔ ll x = ll y := ⟨fun h => h ▸ rfl, ll_inj⟩
theorem nn_or (x y : Int32) : nn (x ||| y) = nn x ||| nn y := by unfold nn; rw [Int32.toBitVec_or, BitVec.toNat_or]
theorem nn_and (x y : Int32) : nn (x &&& y) = nn x &&& nn y := by unfold nn; rw [Int32.toBitVec_and, BitVec.toNat_and]
theorem nn_xor (x y : Int32) : nn (x ^^^ y) = nn x ^^^ nn y := by unfold nn; rw [Int32.toBitVec_xor, BitVec.toNat_xor]
theorem ll_or (x y : Int64) : ll (x ||| y) = ll x ||| ll y := by unfold ll; rw [Int64.toBitVec_or, BitVec.toNat_or]
theorem ll_and (x y : Int64) : ll (x &&& y) = ll x &&& ll y := by unfold ll; rw [Int64.toBitVec_and, BitVec.toNat_and]
theorem nn_lt (x : Int32) : nn x < 2 ^ 32 := x.toBitVec.isLt
theorem nn_0 : nn 0 = 0 := by decide
theorem ll_0 : ll 0 = 0 := by decide
theorem nn_nI {a : Nat} (h : a < 2 ^ 32) : nn (nI a) = a := by
  show (BitVec.ofNat 32 a).toNat = a
  rw [BitVec.toNat_ofNat]
  exact Nat.mod_eq_of_lt h
/-- a set of the first n numbers -/
theorem nn_nonneg {x : Int32} (h : nn x < 2 ^ 31) : x.toInt = (nn x : Int) := by
  rw [← Int32.toInt_toBitVec]
  exact BitVec.toInt_eq_toNat_of_lt (by unfold nn at h; omega)
theorem ll_toInt64 {x : Int32} (h : nn x < 2 ^ 31) : ll x.toInt64 = nn x := by
  have e : x = nI (nn x) := s_of (nn_nonneg h) h
  have e2 : (nI (nn x)).toInt64 = lN (nn x) := nI_l h
  rw [e, e2]
  show (BitVec.ofNat 64 (nn x)).toNat = nn (nI (nn x))
  rw [BitVec.toNat_ofNat, nn_nI (by omega)]
  exact Nat.mod_eq_of_lt (by omega)
theorem nn_two : ∀ i, i < 32 → nn ((1 : Int32) <<< (nI i &&& 31)) = 2 ^ i := by decide +kernel
theorem ll_two : ∀ i, i < 64 → ll ((1 : Int64) <<< ((nI i).toInt64 &&& 63)) = 2 ^ i := by decide +kernel
theorem nn_not : ∀ i, i < 32 → nn (((1 : Int32) <<< (nI i &&& 31)) ^^^ (-1 : Int32)) = 2 ^ 32 - 1 - 2 ^ i := by decide +kernel
theorem s_l : ∀ n, n < 32 → ((nI n &&& 31).toBitVec.smod 32).toNat = n := by decide +kernel
theorem s_l64 : ∀ n, n < 64 → (((nI n).toInt64 &&& 63).toBitVec.smod 64).toNat = n := by decide +kernel
theorem bit0 (x : Nat) : x &&& 1 = 0 ↔ x.testBit 0 = false := by
  rw [Nat.and_one_is_mod, Nat.testBit_zero]
  simp
/-- the class's isIn -/
theorem s_isIn {x : Int32} {i : Nat} (hi : i < 32) : (x >>> (nI i &&& 31)) &&& (1 : Int32) = 0 ↔ (nn x).testBit i = false := by
  rw [nn_eq, nn_and, nn_0, show nn 1 = 1 from by decide, bit0]
  show (x >>> (nI i &&& 31)).toBitVec.toNat.testBit 0 = false ↔ _
  rw [Int32.toBitVec_shiftRight]
  show (x.toBitVec.sshiftRight ((nI i &&& 31).toBitVec.smod 32).toNat).toNat.testBit 0 = false ↔ _
  rw [s_l i hi, BitVec.testBit_toNat, BitVec.getLsbD_sshiftRight]
  have h : 0 + i < 32 ∧ i + 0 < 32 := by omega
  simp [hi, nn, BitVec.testBit_toNat]
/-- the reference's test of a bit -/
theorem s_isInL {x : Int64} {i : Nat} (hi : i < 64) : lg_cmp ((x >>> ((nI i).toInt64 &&& 63)) &&& (1 : Int64)) (1 : Int64) = 0 ↔ (ll x).testBit i = true := by
  rw [lg_cmp_eq, ll_eq, ll_and, show ll 1 = 1 from by decide]
  have e : (ll (x >>> ((nI i).toInt64 &&& 63))).testBit 0 = (ll x).testBit i := by
    show (x >>> ((nI i).toInt64 &&& 63)).toBitVec.toNat.testBit 0 = _
    rw [Int64.toBitVec_shiftRight]
    show (x.toBitVec.sshiftRight (((nI i).toInt64 &&& 63).toBitVec.smod 64).toNat).toNat.testBit 0 = _
    rw [s_l64 i hi, BitVec.testBit_toNat, BitVec.getLsbD_sshiftRight]
    simp [hi, ll, BitVec.testBit_toNat]
  rw [← e, Nat.and_one_is_mod, Nat.testBit_zero]
  simp
theorem s_ext {x y : Nat} (h : ∀ i, x.testBit i = y.testBit i) : x = y := Nat.eq_of_testBit_eq h
theorem s_big {x n i : Nat} (h : x < 2 ^ n) (hi : n ≤ i) : x.testBit i = false := Nat.testBit_lt_two_pow (Nat.lt_of_lt_of_le h (Nat.pow_le_pow_right (by decide) hi))
theorem s_lt2 {x n : Nat} (h : ∀ i, n ≤ i → x.testBit i = false) : x < 2 ^ n := Nat.lt_pow_two_of_testBit x (fun i hi => h i hi)
theorem s_or2 {x i : Nat} : ∀ j, (x ||| 2 ^ i).testBit j = (x.testBit j || decide (i = j)) := fun j => by
  rw [Nat.testBit_or, Nat.testBit_two_pow]
end SBI
end
/-! part 9sa1.ex -/
section
section SEX
/-! exploring: items in the sequence in which they are met; L the items, T the numbers that arrows lead to; at most lim items; it stops behind an item with u -/
def nxt (f : Nat → Nat → Nat) (L T : List Nat) : Nat := f (L.getD (T.length / 3) 0) (T.length % 3)
def EXs (lim : Nat) (f : Nat → Nat → Nat) (u : Nat → Bool) : Nat → List Nat → List Nat → Option (List Nat × List Nat)
  | 0, _, _ => none
  | k + 1, L, T =>
    if 3 * L.length ≤ T.length ∨ u (L.getD (L.length - 1) 0) = true then some (L, T)
    else if nxt f L T ∈ L then EXs lim f u k L (T ++ [L.idxOf (nxt f L T)])
    else if lim ≤ L.length then none
    else EXs lim f u k (L ++ [nxt f L T]) (T ++ [L.length])
def EX (lim : Nat) (f : Nat → Nat → Nat) (u : Nat → Bool) (x0 : Nat) : Option (List Nat × List Nat) := EXs lim f u (3 * lim + 1) [x0] []
variable {lim : Nat} {f : Nat → Nat → Nat} {u : Nat → Bool} {L T : List Nat} {R : Option (List Nat × List Nat)}
/-- where the exploring stands -/
def EI (lim : Nat) (f : Nat → Nat → Nat) (u : Nat → Bool) (R : Option (List Nat × List Nat)) (L T : List Nat) : Prop := EXs lim f u (3 * lim + 1 - T.length) L T = R ∧ L.length ≤ lim ∧ 1 ≤ L.length ∧ T.length ≤ 3 * L.length ∧ (∀ p, p < T.length → T.getD p 0 < L.length ∧ L.getD (T.getD p 0) 0 = f (L.getD (p / 3) 0) (p % 3))
theorem EI.start (x0 : Nat) (h : 1 ≤ lim) : EI lim f u (EX lim f u x0) [x0] [] := ⟨rfl, h, Nat.le_refl 1, Nat.zero_le _, fun p hp => absurd hp (Nat.not_lt_zero _)⟩
theorem EI.fuel (h : EI lim f u R L T) : 3 * lim + 1 - T.length = (3 * lim - T.length) + 1 := by
  have h1 := h.2.1
  have h2 := h.2.2.2.1
  omega
theorem EI.done (h : EI lim f u R L T) (hd : 3 * L.length ≤ T.length ∨ u (L.getD (L.length - 1) 0) = true) : R = some (L, T) := by
  rw [← h.1, h.fuel, EXs, if_pos hd]
theorem getD_app {L : List Nat} {x i : Nat} (h : i < L.length) : (L ++ [x]).getD i 0 = L.getD i 0 := by
  rw [List.getD_eq_getElem?_getD, List.getD_eq_getElem?_getD, List.getElem?_append_left h]
theorem getD_new {L : List Nat} {x : Nat} : (L ++ [x]).getD L.length 0 = x := by
  rw [List.getD_eq_getElem?_getD, List.getElem?_append_right (Nat.le_refl _)]
  simp
theorem getD_mem {L : List Nat} {i : Nat} (h : i < L.length) : L.getD i 0 ∈ L := by
  rw [List.getD_eq_getElem?_getD, List.getElem?_eq_getElem h]
  exact List.getElem_mem h
theorem getD_idx {L : List Nat} {x : Nat} (h : x ∈ L) : L.getD (L.idxOf x) 0 = x := by
  induction L with
  | nil => simp at h
  | cons a l ih =>
    by_cases e : a = x
    · subst e
      simp
    · have hx : x ∈ l := by
        rcases List.mem_cons.mp h with h | h
        · exact absurd h.symm e
        · exact h
      rw [List.idxOf_cons]
      simp only [beq_iff_eq, e, cond_false, Bool.cond_eq_ite, if_false]
      simpa using ih hx
theorem idx_lt {L : List Nat} {x : Nat} (h : x ∈ L) : L.idxOf x < L.length := List.idxOf_lt_length_iff.mpr h
theorem idx_of {L : List Nat} {x i : Nat} (h : i < L.length) (hx : L.getD i 0 = x) (hn : ∀ j, j < i → L.getD j 0 ≠ x) : L.idxOf x = i := by
  have hm : x ∈ L := hx ▸ getD_mem h
  have h1 := getD_idx hm
  rcases Nat.lt_trichotomy (L.idxOf x) i with z | z | z
  · exact absurd h1 (hn _ z)
  · exact z
  · exfalso
    have key : ∀ (l : List Nat) (i : Nat), i < l.idxOf x → l.getD i 0 ≠ x ∨ l.length ≤ i := by
      intro l
      induction l with
      | nil => intro i _; exact Or.inr (Nat.zero_le _)
      | cons a l ih =>
        intro i hi
        by_cases e : a = x
        · subst e
          simp at hi
        · rw [List.idxOf_cons] at hi
          simp only [beq_iff_eq, e, cond_false, Bool.cond_eq_ite, if_false] at hi
          cases i with
          | zero => exact Or.inl (by simpa using e)
          | succ i => exact (ih i (by omega)).imp (fun z => by simpa using z) (fun z => by simp; omega)
    rcases key L i z with q | q
    · exact q hx
    · omega
theorem not_mem_of {L : List Nat} {x : Nat} (h : ∀ j, j < L.length → L.getD j 0 ≠ x) : x ∉ L := fun hm => by
  have h1 := idx_lt hm
  exact h _ h1 (getD_idx hm)
theorem EI.old (h : EI lim f u R L T) (hd : ¬ (3 * L.length ≤ T.length ∨ u (L.getD (L.length - 1) 0) = true)) (hm : nxt f L T ∈ L) : EI lim f u R L (T ++ [L.idxOf (nxt f L T)]) := by
  have h3 : ¬ 3 * L.length ≤ T.length := fun z => hd (Or.inl z)
  have h2 := h.2.1
  refine ⟨?_, h.2.1, h.2.2.1, by rw [List.length_append]; simp; omega, fun p hp => ?_⟩
  · rw [← h.1, h.fuel, EXs, if_neg hd, if_pos hm, List.length_append, show 3 * lim + 1 - (T.length + [L.idxOf (nxt f L T)].length) = 3 * lim - T.length by simp only [List.length_cons, List.length_nil]; omega]
  · rw [List.length_append] at hp
    simp at hp
    by_cases e : p = T.length
    · subst e
      rw [getD_new]
      exact ⟨idx_lt hm, getD_idx hm⟩
    · have hp2 : p < T.length := by omega
      rw [getD_app hp2]
      exact h.2.2.2.2 p hp2
theorem EI.full (h : EI lim f u R L T) (hd : ¬ (3 * L.length ≤ T.length ∨ u (L.getD (L.length - 1) 0) = true)) (hm : nxt f L T ∉ L) (hl : lim ≤ L.length) : R = none := by
  rw [← h.1, h.fuel, EXs, if_neg hd, if_neg hm, if_pos hl]
theorem EI.new (h : EI lim f u R L T) (hd : ¬ (3 * L.length ≤ T.length ∨ u (L.getD (L.length - 1) 0) = true)) (hm : nxt f L T ∉ L) (hl : ¬ lim ≤ L.length) : EI lim f u R (L ++ [nxt f L T]) (T ++ [L.length]) := by
  have h3 : ¬ 3 * L.length ≤ T.length := fun z => hd (Or.inl z)
  have h2 := h.2.1
  refine ⟨?_, by rw [List.length_append]; simp; omega, by rw [List.length_append]; simp, by rw [List.length_append, List.length_append]; simp; omega, fun p hp => ?_⟩
  · rw [← h.1, h.fuel, EXs, if_neg hd, if_neg hm, if_neg hl, List.length_append, show 3 * lim + 1 - (T.length + [L.length].length) = 3 * lim - T.length by simp only [List.length_cons, List.length_nil]; omega]
  · rw [List.length_append] at hp
    simp at hp
    rw [List.length_append]
    by_cases e : p = T.length
    · subst e
      rw [getD_new, getD_new, getD_app (by omega)]
      exact ⟨by simp, rfl⟩
    · have hp2 : p < T.length := by omega
      have := h.2.2.2.2 p hp2
      have t1 := this.1
      rw [getD_app hp2, getD_app this.1, getD_app (by omega)]
      exact ⟨by simp only [List.length_cons, List.length_nil]; omega, this.2⟩
/-- what holds of its end -/
def EE (lim : Nat) (f : Nat → Nat → Nat) (L T : List Nat) : Prop := L.length ≤ lim ∧ 1 ≤ L.length ∧ (∀ p, p < T.length → T.getD p 0 < L.length ∧ L.getD (T.getD p 0) 0 = f (L.getD (p / 3) 0) (p % 3))
theorem EI.inv : ∀ (k : Nat) {L T : List Nat}, 3 * lim + 1 - T.length = k → EI lim f u R L T → ∀ L' T', R = some (L', T') → EE lim f L' T' ∧ L'.getD 0 0 = L.getD 0 0 ∧ (3 * L'.length = T'.length ∨ u (L'.getD (L'.length - 1) 0) = true) := by
  intro k
  induction k with
  | zero =>
    intro L T hk h
    have := h.fuel
    omega
  | succ k ih =>
    intro L T hk h L' T' hR
    by_cases hd : 3 * L.length ≤ T.length ∨ u (L.getD (L.length - 1) 0) = true
    · have := h.done hd
      rw [hR] at this
      cases this
      have h4 := h.2.2.2.1
      exact ⟨⟨h.2.1, h.2.2.1, h.2.2.2.2⟩, rfl, hd.imp (fun z => by omega) (fun z => z)⟩
    · by_cases hm : nxt f L T ∈ L
      · exact ih (by rw [List.length_append]; simp; omega) (h.old hd hm) L' T' hR
      · by_cases hl : lim ≤ L.length
        · have := h.full hd hm hl
          rw [hR] at this
          cases this
        · have g := ih (by rw [List.length_append]; simp; omega) (h.new hd hm hl) L' T' hR
          rw [getD_app (by have := h.2.2.1; omega)] at g
          exact g
theorem EX.inv {x0 : Nat} (hl : 1 ≤ lim) {L' T' : List Nat} (h : EX lim f u x0 = some (L', T')) : EE lim f L' T' ∧ L'.getD 0 0 = x0 ∧ (3 * L'.length = T'.length ∨ u (L'.getD (L'.length - 1) 0) = true) := EI.inv _ rfl (EI.start x0 hl) L' T' h
end SEX
end
/-! part 9sa2.one -/
section
section SON
variable {μ : TMem} {k : Nat}
theorem tms_ne {i j : Nat} {v : Int32} (h : j ≠ k) : tms μ k i v j = μ j := by simp [tms, h]
theorem tms_eq {i : Nat} {v : Int32} : tms μ k i v k = upd (μ k) i v := by simp [tms]
theorem s_ne1 {a : Nat} (h : a < 2 ^ 31) : ¬ nI a = (-1 : Int32) := fun e => by
  have := congrArg Int32.toInt e
  rw [nI_toInt h, show (-1 : Int32).toInt = -1 from rfl] at this
  omega
theorem s_place (a b : Nat) : nI a * (3 : Int32) + nI b = nI (3 * a + b) := by
  rw [show (3 : Int32) = nI 3 from rfl, s_mul, nI_add, Nat.mul_comm]
theorem e_atN {a b : Nat} {Q : Int32 → Prop} (h3 : 3 * a + b < tl (k + 1)) (h : Q (μ (k + 1) (3 * a + b))) : wp_X7_at k μ (nI a) (nI b) Q := by
  have t2 := tlhi (k + 1)
  unfold wp_X7_at
  rw [s_place]
  refine ⟨fun c => absurd c (nI_pos (by omega)), fun _ => ⟨fun c => ?_, fun _ => ⟨s_in h3 (by omega), ?_⟩⟩⟩
  · rw [nI_leI (by omega) (by omega)] at c
    omega
  · rw [nI_clamp (by omega)]
    exact h
theorem e_putN {a b : Nat} {v : Int32} {Q : TMem → Prop} (h3 : 3 * a + b < tl (k + 1)) (h : Q (tms μ (k + 1) (3 * a + b) v)) : wp_X7_put k μ (nI a) (nI b) v Q := by
  have t2 := tlhi (k + 1)
  unfold wp_X7_put
  rw [s_place]
  refine ⟨fun c => absurd c (nI_pos (by omega)), fun _ => ⟨fun c => ?_, fun _ => ⟨s_in h3 (by omega), ?_⟩⟩⟩
  · rw [nI_leI (by omega) (by omega)] at c
    omega
  · rw [nI_clamp (by omega)]
    exact h
theorem e_row {a : Nat} {Q : Int32 → Prop} (h3 : a < tl (k + 1)) (h : Q (μ (k + 1) a)) : wp_X6_at k μ (nI a) Q := by
  have t2 := tlhi (k + 1)
  unfold wp_X6_at
  refine ⟨fun c => absurd c (nI_pos (by omega)), fun _ => ⟨fun c => ?_, fun _ => ⟨s_in h3 (by omega), ?_⟩⟩⟩
  · rw [nI_leI (by omega) (by omega)] at c
    omega
  · rw [nI_clamp (by omega)]
    exact h
theorem e_rowput {a : Nat} {v : Int32} {Q : TMem → Prop} (h3 : a < tl (k + 1)) (h : Q (tms μ (k + 1) a v)) : wp_X6_put k μ (nI a) v Q := by
  have t2 := tlhi (k + 1)
  unfold wp_X6_put
  refine ⟨fun c => absurd c (nI_pos (by omega)), fun _ => ⟨fun c => ?_, fun _ => ⟨s_in h3 (by omega), ?_⟩⟩⟩
  · rw [nI_leI (by omega) (by omega)] at c
    omega
  · rw [nI_clamp (by omega)]
    exact h
/-- the set to which arrows lead from a set, by the first i states -/
def RCg (c : Nat → Nat) (S s : Nat) : Nat → Nat
  | 0 => 0
  | i + 1 => if S.testBit i = true then RCg c S s i ||| c (3 * i + s) else RCg c S s i
def RC (n : Nat) (c : Nat → Nat) (S s : Nat) : Nat := RCg c S s n
theorem e_reach {n s : Nat} {x : Int32} {Q : Int32 → Prop} (hn : μ k 1 = nI n) (hn32 : n ≤ 32) (ht : 3 * n ≤ tl (k + 1)) (hs : s < 3) (h : ∀ r, nn r = RC n (fun j => nn (μ (k + 1) j)) (nn x) s → Q r) : wp_X2_reach k μ x (nI s) Q := by
  have L : ∀ (nf a : Nat) (v : Int32), n - a < nf → a ≤ n → nn v = RCg (fun j => nn (μ (k + 1) j)) (nn x) s a → wpl_X2_reach_5 k μ x (nI s) Q nf (nI a) v := by
    intro nf
    induction nf with
    | zero => intro a v hk; exact absurd hk (Nat.not_lt_zero _)
    | succ nf ih =>
      intro a v hk ha hv
      refine ⟨fun c => ?_, fun c => ?_⟩
      · rw [hn, nI_leI (by omega) (by omega)] at c
        have e : a = n := by omega
        rw [e] at hv
        exact h v hv
      rw [hn, nI_leI (by omega) (by omega)] at c
      refine ⟨fun z => ⟨fun _ => ?_, fun q => absurd rfl q⟩, fun z => ⟨fun q => absurd q (by decide), fun _ => e_atN (by omega) ?_⟩⟩
      · rw [s_isIn (by omega)] at z
        rw [nI_1]
        exact ih (a + 1) v (by omega) (by omega) (by rw [RCg, z]; simpa using hv)
      · rw [s_isIn (by omega)] at z
        rw [nI_1]
        exact ih (a + 1) _ (by omega) (by omega) (by rw [nn_or, RCg, if_pos (by simpa using z), hv])
  have g := L (n + 1) 0 0 (by omega) (Nat.zero_le _) nn_0
  rw [nI_0] at g
  exact ⟨_, g⟩
theorem e_find {L : List Nat} {x : Int32} {Q : Int32 → Prop} (hl : L.length ≤ tl (k + 1)) (hc : ∀ i, i < L.length → nn (μ (k + 1) i) = L.getD i 0) (h1 : nn x ∈ L → Q (nI (L.idxOf (nn x)))) (h0 : nn x ∉ L → Q (-1)) : wp_X6_find k μ x (nI L.length) Q := by
  have t2 := tlhi (k + 1)
  have go : ∀ (nf a : Nat), L.length - a < nf → a ≤ L.length → (∀ j, j < a → L.getD j 0 ≠ nn x) → wpl_X6_find_2 k μ x (nI L.length) Q nf (nI a) := by
    intro nf
    induction nf with
    | zero => intro a hk; exact absurd hk (Nat.not_lt_zero _)
    | succ nf ih =>
      intro a hk ha hno
      refine ⟨fun c => ?_, fun c => ?_⟩
      · rw [nI_leI (by omega) (by omega)] at c
        exact h0 (not_mem_of (fun j hj => hno j (by omega)))
      rw [nI_leI (by omega) (by omega)] at c
      refine ⟨fun c2 => ?_, fun c2 => ⟨s_in (by omega) (by omega), ?_⟩⟩
      · rw [nI_leI (by omega) (by omega)] at c2
        omega
      have e := hc a (by omega)
      rw [nI_clamp (by omega), nI_1]
      refine ⟨fun z => ?_, fun z => ?_⟩
      · refine ih (a + 1) (by omega) (by omega) (fun j hj => ?_)
        by_cases q : j = a
        · rw [q, ← e]
          exact fun w => z (nn_inj w)
        · exact hno j (by omega)
      · have e2 : L.getD a 0 = nn x := by rw [← e, z]
        have e3 := idx_of (by omega) e2 hno
        have g := h1 (e2 ▸ getD_mem (by omega))
        rw [e3] at g
        exact g
  have g := go (L.length + 1) 0 (by omega) (Nat.zero_le _) (fun j hj => absurd hj (Nat.not_lt_zero _))
  rw [nI_0] at g
  exact ⟨_, g⟩
theorem kd5 {k2 : Nat} (h : kd k2 = 5) : (k2 = 33 ∨ k2 = 51 ∨ k2 = 53 ∨ k2 = 55 ∨ k2 = 57) ∧ tl (k2 + 1) = 96 := by
  have h1 : ∀ j : Nat, j < 59 → kd j = 5 → (j = 33 ∨ j = 51 ∨ j = 53 ∨ j = 55 ∨ j = 57) ∧ tl (j + 1) = 96 := by decide
  by_cases e : k2 < 59
  · exact h1 k2 e h
  · have h9 : kd k2 = 99 := by
      unfold kd
      rw [List.getD_eq_getElem?_getD, List.getElem?_eq_none (by simp [tkl]; omega)]
      rfl
    rw [h9] at h
    exact absurd h (by decide)
theorem kd2 {k1 : Nat} (h : kd k1 = 2) : (k1 = 2 ∨ k1 = 4 ∨ k1 = 6 ∨ k1 = 8 ∨ k1 = 10 ∨ k1 = 12 ∨ k1 = 29 ∨ k1 = 31) := by
  have h1 : ∀ j : Nat, j < 59 → kd j = 2 → (j = 2 ∨ j = 4 ∨ j = 6 ∨ j = 8 ∨ j = 10 ∨ j = 12 ∨ j = 29 ∨ j = 31) := by decide
  by_cases e : k1 < 59
  · exact h1 k1 e h
  · have h9 : kd k1 = 99 := by
      unfold kd
      rw [List.getD_eq_getElem?_getD, List.getElem?_eq_none (by simp [tkl]; omega)]
      rfl
    rw [h9] at h
    exact absurd h (by decide)
variable {k2 : Nat}
theorem e_numberOf {L : List Nat} {x : Int32} {Q : Int32 → TMem → Prop} (hk : kd k2 = 5) (hz : μ k2 1 = nI L.length) (hl : L.length ≤ 32) (hc : ∀ i, i < L.length → nn (μ 17 i) = L.getD i 0) (h1 : nn x ∈ L → Q (nI (L.idxOf (nn x))) μ) (h2 : nn x ∉ L → 32 ≤ L.length → Q (-1) μ) (h3 : nn x ∉ L → ¬ 32 ≤ L.length → Q (nI L.length) (tms (tms μ 17 L.length x) k2 1 (nI (L.length + 1)))) : wp_X3_numberOf k2 μ x Q := by
  have q5 := kd5 hk
  unfold wp_X3_numberOf
  rw [hz]
  refine e_find (k := 16) (L := L) (show L.length ≤ tl 17 from hl) hc (fun m => ⟨fun _ => h1 m, fun z => absurd z (s_ne1 (by have := idx_lt m; omega))⟩) (fun m => ⟨fun z => absurd rfl z, fun _ => ⟨fun c => ?_, fun c => ?_⟩⟩)
  · rw [show (32 : Int32) = nI 32 from rfl, nI_ltI (by omega) (by omega)] at c
    refine e_rowput (k := 16) (show L.length < tl 17 from c) ?_
    show Q (((tms (tms μ 17 L.length x) k2 1 (((tms μ 17 L.length x) k2 1) + (1 : Int32))) k2 1) - (1 : Int32)) (tms (tms μ 17 L.length x) k2 1 (((tms μ 17 L.length x) k2 1) + (1 : Int32)))
    have e6 : (tms μ 17 L.length x) k2 1 = nI L.length := by rw [tms_ne (by omega)]; exact hz
    rw [e6, nI_1, tms_eq, upd_at, nI_pred]
    exact h3 m (by omega)
  · rw [show (32 : Int32) = nI 32 from rfl, nI_ltI (by omega) (by omega)] at c
    exact h2 m (by omega)
/-- where making a one-way one stands: a' rows have their goal flag -/
def OI (μ0 : TMem) (k2 : Nat) (gl : Nat → Bool) (f : Nat → Nat → Nat) (R : Option (List Nat × List Nat)) (L T : List Nat) (a' : Nat) (μ : TMem) : Prop :=
  EI 32 f (fun _ => false) R L T ∧ μ k2 1 = nI L.length ∧ (∀ i, i < L.length → nn (μ 17 i) = L.getD i 0) ∧ (∀ j, j < T.length → μ (k2 + 1) j = nI (T.getD j 0)) ∧ (∀ i, i < 32 → (nn (μ k2 2)).testBit i = (decide (i < a') && gl (L.getD i 0))) ∧ ∀ k, k ≠ 17 → k ≠ k2 → k ≠ k2 + 1 → μ k = μ0 k
variable {μ0 : TMem} {gl : Nat → Bool} {f : Nat → Nat → Nat} {R : Option (List Nat × List Nat)} {L T : List Nat} {a' : Nat}
theorem OI.old (hk : kd k2 = 5) (h : OI μ0 k2 gl f R L T a' μ) (hd : ¬ 3 * L.length ≤ T.length) (hm : nxt f L T ∈ L) : OI μ0 k2 gl f R L (T ++ [L.idxOf (nxt f L T)]) a' (tms μ (k2 + 1) T.length (nI (L.idxOf (nxt f L T)))) := by
  have q5 := kd5 hk
  obtain ⟨h1, h2, h3, h4, h5, h6⟩ := h
  refine ⟨h1.old (fun z => z.elim hd (fun z => by cases z)) hm, ?_, fun i hi => ?_, fun j hj => ?_, fun i hi => ?_, fun k a b c => ?_⟩
  · rw [tms_ne (by omega)]; exact h2
  · rw [tms_ne (by omega)]; exact h3 i hi
  · rw [tms_eq]
    rw [List.length_append] at hj
    simp at hj
    by_cases e : j = T.length
    · rw [e, upd_at, getD_new]
    · rw [upd_ne e, getD_app (by omega)]
      exact h4 j (by omega)
  · rw [tms_ne (by omega)]; exact h5 i hi
  · rw [tms_ne c]; exact h6 k a b c
theorem OI.new {x : Int32} (hk : kd k2 = 5) (h : OI μ0 k2 gl f R L T a' μ) (hd : ¬ 3 * L.length ≤ T.length) (hm : nxt f L T ∉ L) (hl : ¬ 32 ≤ L.length) (ha : a' ≤ L.length) (hx : nn x = nxt f L T) : OI μ0 k2 gl f R (L ++ [nxt f L T]) (T ++ [L.length]) a' (tms (tms (tms μ 17 L.length x) k2 1 (nI (L.length + 1))) (k2 + 1) T.length (nI L.length)) := by
  have q5 := kd5 hk
  obtain ⟨h1, h2, h3, h4, h5, h6⟩ := h
  refine ⟨h1.new (fun z => z.elim hd (fun z => by cases z)) hm hl, ?_, fun i hi => ?_, fun j hj => ?_, fun i hi => ?_, fun k a b c => ?_⟩
  · rw [tms_ne (by omega), tms_eq, upd_at, List.length_append]
    rfl
  · rw [tms_ne (by omega), tms_ne (by omega), tms_eq]
    rw [List.length_append] at hi
    simp at hi
    by_cases e : i = L.length
    · rw [e, upd_at, getD_new, hx]
    · rw [upd_ne e, getD_app (by omega)]
      exact h3 i (by omega)
  · rw [tms_eq]
    rw [List.length_append] at hj
    simp at hj
    by_cases e : j = T.length
    · rw [e, upd_at, getD_new]
    · rw [upd_ne e, getD_app (by omega), tms_ne (by omega), tms_ne (by omega)]
      exact h4 j (by omega)
  · rw [tms_ne (by omega), tms_eq, upd_ne (by decide), tms_ne (by omega), h5 i hi]
    by_cases e : i < a'
    · rw [getD_app (by omega)]
    · simp [e]
  · rw [tms_ne c, tms_ne b, tms_ne a]; exact h6 k a b c
end SON
end
/-! part 9sa3.one2 -/
section
section SOP
variable {μ μ0 : TMem} {k1 k2 : Nat} {gl : Nat → Bool} {f : Nat → Nat → Nat} {R : Option (List Nat × List Nat)}
/-- the frame of making a one-way one into k2 -/
def F17 (k2 : Nat) (μ μ9 : TMem) : Prop := ∀ k, k ≠ 17 → k ≠ k2 → k ≠ k2 + 1 → μ9 k = μ k
theorem e_ow78 {n a : Nat} {x : Int32} {K : TMem → Prop} {Q : Int32 → TMem → Prop} (hk1 : kd k1 = 2) (hk : kd k2 = 5) (hn : μ0 k1 1 = nI n) (hn32 : n ≤ 32) (ht : 3 * n ≤ tl (k1 + 1)) (hf : f = RC n (fun j => nn (μ0 (k1 + 1) j)))
    (hK : ∀ (L T : List Nat) (μ9 : TMem), T.length = 3 * (a + 1) → a < L.length → OI μ0 k2 gl f R L T (a + 1) μ9 → K μ9) (hQ : R = none → ∀ μ9, F17 k2 μ0 μ9 → Q 0 μ9) :
    ∀ (nf b : Nat) (L T : List Nat) (μ17 : TMem), 3 - b < nf → b ≤ 3 → T.length = 3 * a + b → a < L.length → nn x = L.getD a 0 → OI μ0 k2 gl f R L T (a + 1) μ17 → wpl_X3_makeOneWay_78 k1 k2 x (nI a) K Q nf (nI b) μ17 := by
  have q5 := kd5 hk
  have q2 := kd2 hk1
  intro nf
  induction nf with
  | zero => intro b L T μ17 hk; exact absurd hk (Nat.not_lt_zero _)
  | succ nf ih =>
    intro b L T μ17 hnf hb hT ha hx hO
    have hO' := hO
    obtain ⟨h1, h2, h3, h4, h5, h6⟩ := hO'
    have hL := h1.2.1
    refine ⟨fun c => ?_, fun c => ?_⟩
    · rw [show (3 : Int32) = nI 3 from rfl, nI_leI (by omega) (by omega)] at c
      exact hK L T μ17 (by omega) ha hO
    rw [show (3 : Int32) = nI 3 from rfl, nI_leI (by omega) (by omega)] at c
    have e1 : μ17 k1 = μ0 k1 := h6 k1 (by omega) (by omega) (by omega)
    have e2 : μ17 (k1 + 1) = μ0 (k1 + 1) := h6 (k1 + 1) (by omega) (by omega) (by omega)
    have hd : ¬ 3 * L.length ≤ T.length := by omega
    have hp : 3 * a + b < tl (k2 + 1) := by rw [q5.2]; omega
    refine e_reach (k := k1) (by rw [e1]; exact hn) hn32 ht (by omega) (fun r hr => ?_)
    have er : nn r = nxt f L T := by rw [hr, e2, hx, nxt, hf, hT, show (3 * a + b) / 3 = a by omega, show (3 * a + b) % 3 = b by omega]
    refine e_numberOf hk h2 h1.2.1 h3 (fun m => ?_) (fun m hl => ?_) (fun m hl => ?_)
    · rw [er] at m
      rw [er]
      refine ⟨fun _ => e_putN hp ?_, fun z => absurd z (s_ne1 (by have := idx_lt m; omega))⟩
      rw [nI_1, ← hT]
      exact ih (b + 1) L _ _ (by omega) (by omega) (by rw [List.length_append]; simp; omega) ha hx (hO.old hk hd m)
    · rw [er] at m
      exact ⟨fun z => absurd rfl z, fun _ => hQ (h1.full (fun z => z.elim hd (fun z => by cases z)) m hl) _ h6⟩
    · rw [er] at m
      refine ⟨fun _ => e_putN hp ?_, fun z => absurd z (s_ne1 (by omega))⟩
      rw [nI_1, ← hT]
      exact ih (b + 1) (L ++ [nxt f L T]) _ _ (by omega) (by omega) (by rw [List.length_append]; simp; omega) (by rw [List.length_append]; simp; omega) (by rw [getD_app ha]; exact hx) (hO.new hk hd m hl (by omega) er)
theorem e_with {S j : Int32} {a : Nat} {Q : Int32 → Prop} (ha : a < 32) (h : ∀ r : Int32, (∀ i, i < 32 → (nn r).testBit i = if i = a then decide (j ≠ 0) else (nn S).testBit i) → Q r) : wp_X9_withOrWithout S (nI a) j Q := by
  refine ⟨fun c => h _ (fun i hi => ?_), fun c => h _ (fun i hi => ?_)⟩
  · rw [nn_and, nn_xor, nn_two a ha, show nn (-1) = 2 ^ 32 - 1 from by decide, Nat.testBit_and, Nat.testBit_xor, Nat.testBit_two_pow, Nat.testBit_two_pow_sub_one]
    by_cases e : i = a
    · subst e
      simp [hi, c]
    · have e2 : ¬ a = i := fun z => e z.symm
      simp [hi, e, e2]
  · rw [nn_or, nn_two a ha, Nat.testBit_or, Nat.testBit_two_pow]
    by_cases e : i = a
    · subst e
      simp [c]
    · have e2 : ¬ a = i := fun z => e z.symm
      simp [e, e2]
theorem OI.goal {L T : List Nat} {a : Nat} {r : Int32} {g : Bool} (hk : kd k2 = 5) (h : OI μ0 k2 gl f R L T a μ) (hg : g = gl (L.getD a 0)) (hr : ∀ i, i < 32 → (nn r).testBit i = if i = a then g else (nn (μ k2 2)).testBit i) : OI μ0 k2 gl f R L T (a + 1) (tms μ k2 2 r) := by
  have q5 := kd5 hk
  obtain ⟨h1, h2, h3, h4, h5, h6⟩ := h
  refine ⟨h1, ?_, fun i hi => ?_, fun j hj => ?_, fun i hi => ?_, fun k p q s => ?_⟩
  · rw [tms_eq, upd_ne (by decide)]; exact h2
  · rw [tms_ne (by omega)]; exact h3 i hi
  · rw [tms_ne (by omega)]; exact h4 j hj
  · rw [tms_eq, upd_at, hr i hi]
    by_cases e : i = a
    · rw [if_pos e, e, hg]
      simp
    · rw [if_neg e, h5 i hi]
      congr 1
      exact decide_eq_decide.mpr (by omega)
  · rw [tms_ne q]; exact h6 k p q s
theorem e_ow24 {n : Nat} {Q : Int32 → TMem → Prop} (hk1 : kd k1 = 2) (hk : kd k2 = 5) (hn : μ0 k1 1 = nI n) (hn32 : n ≤ 32) (ht : 3 * n ≤ tl (k1 + 1)) (hf : f = RC n (fun j => nn (μ0 (k1 + 1) j))) (hgl : gl = fun S => decide (S &&& nn (μ0 k1 2) ≠ 0))
    (hQ1 : ∀ (L T : List Nat) (μ9 : TMem), R = some (L, T) → OI μ0 k2 gl f R L T L.length μ9 → T.length = 3 * L.length → Q 1 μ9) (hQ : R = none → ∀ μ9, F17 k2 μ0 μ9 → Q 0 μ9) :
    ∀ (nf a : Nat) (L T : List Nat) (μ4 : TMem), 32 - a < nf → a ≤ L.length → T.length = 3 * a → OI μ0 k2 gl f R L T a μ4 → wpl_X3_makeOneWay_24 k1 k2 Q nf (nI a) μ4 := by
  have q5 := kd5 hk
  have q2 := kd2 hk1
  intro nf
  induction nf with
  | zero => intro a L T μ4 hk; exact absurd hk (Nat.not_lt_zero _)
  | succ nf ih =>
    intro a L T μ4 hnf ha hT hO
    have hO' := hO
    obtain ⟨h1, h2, h3, h4, h5, h6⟩ := hO'
    have hL := h1.2.1
    have fin : L.length ≤ a → Q 1 μ4 := fun c => by
      have e : a = L.length := by omega
      rw [e] at hO hT
      exact hQ1 L T μ4 (h1.done (Or.inl (by omega))) hO hT
    refine ⟨fun c => ?_, fun c => ⟨fun c2 => ?_, fun c2 => ?_⟩⟩
    · rw [show (32 : Int32) = nI 32 from rfl, nI_leI (by omega) (by omega)] at c
      exact fin (by omega)
    · rw [h2, nI_leI (by omega) (by omega)] at c2
      exact fin c2
    rw [h2, nI_leI (by omega) (by omega)] at c2
    refine e_row (k := 16) (show a < tl 17 by rw [show tl 17 = 32 from rfl]; omega) ?_
    have hx : nn (μ4 17 a) = L.getD a 0 := h3 a (by omega)
    have e1 : μ4 k1 = μ0 k1 := h6 k1 (by omega) (by omega) (by omega)
    intro J hJ
    have key : ∀ j : Int32, decide (j ≠ 0) = gl (L.getD a 0) → J j := fun j hj => hJ j (e_with (by omega) (fun r hr => by
      have g := e_ow78 (μ0 := μ0) (gl := gl) (R := R) (a := a) (x := μ4 17 a) (K := fun μ27 => wpl_X3_makeOneWay_24 k1 k2 Q nf (nI a + (1 : Int32)) μ27) (Q := Q) hk1 hk hn hn32 ht hf (fun L9 T9 μ9 z1 z2 z3 => by rw [nI_1]; exact ih (a + 1) L9 T9 μ9 (by omega) (by omega) z1 z3) hQ 4 0 L T (tms μ4 k2 2 r) (by omega) (by omega) hT (by omega) hx (hO.goal hk hj hr)
      rw [nI_0] at g
      exact ⟨_, g⟩))
    have eg : (nn (μ4 17 a &&& μ4 k1 2) = 0) ↔ gl (L.getD a 0) = false := by
      rw [nn_and, hx, e1, hgl]
      simp
    refine ⟨fun c => key 0 ?_, fun c => key 1 ?_⟩
    · have c' : nn (μ4 17 a &&& μ4 k1 2) = 0 := by rw [c]; exact nn_0
      rw [eg.mp c']
      rfl
    · have c' : ¬ nn (μ4 17 a &&& μ4 k1 2) = 0 := fun z => c (nn_inj (by rw [z, nn_0]))
      rw [eg] at c'
      cases q : gl (L.getD a 0) with
      | false => exact absurd q c'
      | true => rfl
abbrev DF := Nat × (Nat → Nat) × (Nat → Bool)
def DFo (L T : List Nat) (gl : Nat → Bool) : DF := (L.length, fun j => T.getD j 0, fun i => gl (L.getD i 0))
/-- the one-way one -/
def OWD (n : Nat) (c : Nat → Nat) (st G : Nat) : Option DF := (EX 32 (RC n c) (fun _ => false) st).map (fun p => DFo p.1 p.2 (fun S => decide (S &&& G ≠ 0)))
/-- the object k holds the one-way machine D -/
def HP (μ : TMem) (k : Nat) (D : DF) : Prop := 1 ≤ D.1 ∧ D.1 ≤ 32 ∧ (∀ j, j < 3 * D.1 → D.2.1 j < D.1) ∧ μ k 1 = nI D.1 ∧ (∀ j, j < 3 * D.1 → μ (k + 1) j = nI (D.2.1 j)) ∧ ∀ i, i < 32 → (nn (μ k 2)).testBit i = (decide (i < D.1) && D.2.2 i)
theorem e_makeOneWay {n : Nat} {Q : Int32 → TMem → Prop} (hk1 : kd k1 = 2) (hk : kd k2 = 5) (hn : μ k1 1 = nI n) (hn32 : n ≤ 32) (ht : 3 * n ≤ tl (k1 + 1)) (h1 : ∀ (D : DF) (μ9 : TMem), OWD n (fun j => nn (μ (k1 + 1) j)) (nn (μ k1 3)) (nn (μ k1 2)) = some D → HP μ9 k2 D → F17 k2 μ μ9 → Q 1 μ9) (h0 : OWD n (fun j => nn (μ (k1 + 1) j)) (nn (μ k1 3)) (nn (μ k1 2)) = none → ∀ μ9, F17 k2 μ μ9 → Q 0 μ9) : wp_X3_makeOneWay k1 k2 μ Q := by
  have q5 := kd5 hk
  have q2 := kd2 hk1
  show wp_X6_put 16 μ (nI 0) (μ k1 3) (fun μ1 => ∃ n1x, wpl_X3_makeOneWay_24 k1 k2 Q n1x (nI 0) (tms (tms μ1 k2 1 (nI 1)) k2 2 (0 : Int32)))
  refine e_rowput (k := 16) (by decide) ?_
  have g := e_ow24 (μ0 := μ) (k1 := k1) (k2 := k2) (n := n) (Q := Q) (R := EX 32 (RC n (fun j => nn (μ (k1 + 1) j))) (fun _ => false) (nn (μ k1 3))) hk1 hk hn hn32 ht rfl rfl (fun L T μ9 hR hO hT => by
      obtain ⟨z1, z2, z3, z4, z5, z6⟩ := hO
      refine h1 (DFo L T (fun S => decide (S &&& nn (μ k1 2) ≠ 0))) μ9 (by rw [OWD, hR]; rfl) ⟨z1.2.2.1, z1.2.1, fun j hj => (z1.2.2.2.2 j (by have : (DFo L T (fun S => decide (S &&& nn (μ k1 2) ≠ 0))).1 = L.length := rfl; omega)).1, z2, fun j hj => z4 j (by have : (DFo L T (fun S => decide (S &&& nn (μ k1 2) ≠ 0))).1 = L.length := rfl; omega), z5⟩ z6) (fun hR μ9 hF => h0 (by rw [OWD, hR]; rfl) μ9 hF) 33 0 [nn (μ k1 3)] [] (tms (tms (tms μ 17 0 (μ k1 3)) k2 1 (nI 1)) k2 2 (0 : Int32)) (by omega) (Nat.zero_le _) rfl ⟨EI.start _ (by decide), ?_, fun i hi => ?_, fun j hj => absurd hj (Nat.not_lt_zero _), fun i hi => ?_, fun k p q s => ?_⟩
  · exact ⟨_, g⟩
  · rw [tms_eq, upd_ne (by decide), tms_eq, upd_at]
    rfl
  · rw [tms_ne (by omega), tms_ne (by omega), tms_eq]
    simp at hi
    subst hi
    rw [upd_at]
    rfl
  · rw [tms_eq, upd_at, nn_0]
    simp
  · rw [tms_ne q, tms_ne q, tms_ne p]
end SOP
end
/-! part 9sa4.part -/
section
section SPT
/-- the first j with p, from j on -/
def fsf (p : Nat → Bool) : Nat → Nat → Nat
  | 0, j => j
  | n + 1, j => if p j = true then j else fsf p n (j + 1)
/-- the first j up to k with p; k, if there is none below -/
def fi (p : Nat → Bool) (k : Nat) : Nat := fsf p k 0
theorem fsf_of {p : Nat → Bool} : ∀ (n j i : Nat), i ≤ n → (∀ m, m < i → p (j + m) = false) → (i < n → p (j + i) = true) → fsf p n j = j + i := by
  intro n
  induction n with
  | zero => intro j i hi _ _; obtain rfl : i = 0 := by omega
            rfl
  | succ n ih =>
    intro j i hi hn hp
    cases i with
    | zero => rw [fsf, if_pos (by have := hp (by omega); rwa [Nat.add_zero] at this)]; rfl
    | succ i =>
      have h0 := hn 0 (by omega)
      rw [Nat.add_zero] at h0
      rw [fsf, h0, if_neg (by decide), ih (j + 1) i (by omega) (fun m hm => by rw [← hn (m + 1) (by omega)]; congr 1; omega) (fun hl => by rw [← hp (by omega)]; congr 1; omega)]
      omega
theorem fsf_ex {p : Nat → Bool} : ∀ (n j : Nat), ∃ i, i ≤ n ∧ (∀ m, m < i → p (j + m) = false) ∧ (i < n → p (j + i) = true) := by
  intro n
  induction n with
  | zero => intro j; exact ⟨0, Nat.le_refl _, fun m hm => absurd hm (Nat.not_lt_zero _), fun h => absurd h (Nat.lt_irrefl _)⟩
  | succ n ih =>
    intro j
    cases hp : p j with
    | true => exact ⟨0, Nat.zero_le _, fun m hm => absurd hm (Nat.not_lt_zero _), fun _ => hp⟩
    | false =>
      obtain ⟨i, h1, h2, h3⟩ := ih (j + 1)
      refine ⟨i + 1, by omega, fun m hm => ?_, fun hl => ?_⟩
      · cases m with
        | zero => exact hp
        | succ m => rw [← h2 m (by omega)]; congr 1; omega
      · rw [← h3 (by omega)]; congr 1; omega
theorem fi_of {p : Nat → Bool} {k i : Nat} (hi : i ≤ k) (hn : ∀ m, m < i → p m = false) (hp : i < k → p i = true) : fi p k = i := by
  have h := fsf_of (p := p) k 0 i hi (fun m hm => by rw [Nat.zero_add]; exact hn m hm) (fun h => by rw [Nat.zero_add]; exact hp h)
  rw [Nat.zero_add] at h
  exact h
theorem fi_spec (p : Nat → Bool) (k : Nat) : fi p k ≤ k ∧ (∀ m, m < fi p k → p m = false) ∧ (fi p k < k → p (fi p k) = true) := by
  obtain ⟨i, h1, h2, h3⟩ := fsf_ex (p := p) k 0
  simp only [Nat.zero_add] at h2 h3
  rw [fi_of h1 h2 h3]
  exact ⟨h1, h2, h3⟩
theorem fi_at {p : Nat → Bool} {k : Nat} (h : p k = true) : p (fi p k) = true := by
  obtain ⟨h1, h2, h3⟩ := fi_spec p k
  rcases Nat.lt_or_ge (fi p k) k with z | z
  · exact h3 z
  · rw [show fi p k = k by omega]; exact h
theorem fi_le (p : Nat → Bool) (k : Nat) : fi p k ≤ k := (fi_spec p k).1
theorem fi_congr {p q : Nat → Bool} {k : Nat} (h : ∀ j, j < k → p j = q j) : fi p k = fi q k := by
  obtain ⟨h1, h2, h3⟩ := fi_spec q k
  exact fi_of h1 (fun m hm => by rw [h m (by omega)]; exact h2 m hm) (fun hl => by rw [h _ hl]; exact h3 hl)
theorem fi_two {p : Nat → Bool} {j k : Nat} (hj : p j = true) (hk : p k = true) : fi p j = fi p k := by
  obtain ⟨h1, h2, h3⟩ := fi_spec p j
  have hm := fi_at hj
  have hle : fi p j ≤ k := Nat.le_of_not_lt (fun z => by have := h2 k z; rw [hk] at this; cases this)
  exact (fi_of hle h2 (fun _ => hm)).symm
/-- parts by the first of each -/
theorem fi_eqv {e : Nat → Nat → Bool} (hr : ∀ a, e a a = true) (hs : ∀ a b, e a b = true → e b a = true) (ht : ∀ a b c, e a b = true → e b c = true → e a c = true) (j k : Nat) : fi (fun i => e i j) j = fi (fun i => e i k) k ↔ e j k = true := by
  have hj := fi_at (p := fun i => e i j) (hr j)
  have hk := fi_at (p := fun i => e i k) (hr k)
  constructor
  · intro h
    rw [h] at hj
    exact ht _ _ _ (hs _ _ hj) hk
  · intro h
    have h1 : (fun i => e i j) = fun i => e i k := by
      funext i
      rw [Bool.eq_iff_iff]
      exact ⟨fun z => ht _ _ _ z h, fun z => ht _ _ _ z (hs _ _ h)⟩
    rw [h1]
    exact fi_two h (hr k)
/-- parting: in round t -/
def PRT (D : DF) : Nat → Nat → Nat
  | 0, k => fi (fun j => D.2.2 j == D.2.2 k) k
  | t + 1, k => fi (fun j => PRT D t j == PRT D t k && (PRT D t (D.2.1 (3 * j)) == PRT D t (D.2.1 (3 * k)) && (PRT D t (D.2.1 (3 * j + 1)) == PRT D t (D.2.1 (3 * k + 1)) && PRT D t (D.2.1 (3 * j + 2)) == PRT D t (D.2.1 (3 * k + 2))))) k
/-- its end -/
def PL (D : DF) (k : Nat) : Nat := PRT D D.1 k
variable {D : DF}
theorem PRT_0 {j k : Nat} : PRT D 0 j = PRT D 0 k ↔ D.2.2 j = D.2.2 k := by
  have h := fi_eqv (e := fun a b => D.2.2 a == D.2.2 b) (fun a => by simp) (fun a b h => by simp only [beq_iff_eq] at h ⊢; exact h.symm) (fun a b c h1 h2 => by simp only [beq_iff_eq] at h1 h2 ⊢; exact h1.trans h2) j k
  rw [show (D.2.2 j = D.2.2 k) = ((D.2.2 j == D.2.2 k) = true) by simp]
  exact h
theorem PRT_s {t j k : Nat} : PRT D (t + 1) j = PRT D (t + 1) k ↔ PRT D t j = PRT D t k ∧ ∀ s, s < 3 → PRT D t (D.2.1 (3 * j + s)) = PRT D t (D.2.1 (3 * k + s)) := by
  have h := fi_eqv (e := fun a b => PRT D t a == PRT D t b && (PRT D t (D.2.1 (3 * a)) == PRT D t (D.2.1 (3 * b)) && (PRT D t (D.2.1 (3 * a + 1)) == PRT D t (D.2.1 (3 * b + 1)) && PRT D t (D.2.1 (3 * a + 2)) == PRT D t (D.2.1 (3 * b + 2))))) (fun a => by simp) (fun a b h => by simp only [Bool.and_eq_true, beq_iff_eq] at h ⊢; exact ⟨h.1.symm, h.2.1.symm, h.2.2.1.symm, h.2.2.2.symm⟩) (fun a b c h1 h2 => by simp only [Bool.and_eq_true, beq_iff_eq] at h1 h2 ⊢; exact ⟨h1.1.trans h2.1, h1.2.1.trans h2.2.1, h1.2.2.1.trans h2.2.2.1, h1.2.2.2.trans h2.2.2.2⟩) j k
  refine Iff.trans h ?_
  simp only [Bool.and_eq_true, beq_iff_eq]
  constructor
  · rintro ⟨h0, h1, h2, h3⟩
    refine ⟨h0, fun s hs => ?_⟩
    rcases (show s = 0 ∨ s = 1 ∨ s = 2 by omega) with rfl | rfl | rfl
    · exact h1
    · exact h2
    · exact h3
  · rintro ⟨h0, h1⟩
    exact ⟨h0, h1 0 (by omega), h1 1 (by omega), h1 2 (by omega)⟩
theorem PRT_le (t k : Nat) : PRT D t k ≤ k := by
  cases t <;> exact fi_le _ _
theorem PRT_id (t k : Nat) : PRT D t (PRT D t k) = PRT D t k := by
  cases t with
  | zero =>
    rw [PRT_0]
    have h := fi_at (p := fun j => D.2.2 j == D.2.2 k) (k := k) (by simp)
    exact beq_iff_eq.mp h
  | succ t =>
    rw [PRT_s]
    have h := fi_at (p := fun j => PRT D t j == PRT D t k && (PRT D t (D.2.1 (3 * j)) == PRT D t (D.2.1 (3 * k)) && (PRT D t (D.2.1 (3 * j + 1)) == PRT D t (D.2.1 (3 * k + 1)) && PRT D t (D.2.1 (3 * j + 2)) == PRT D t (D.2.1 (3 * k + 2))))) (k := k) (by simp)
    simp only [Bool.and_eq_true, beq_iff_eq] at h
    refine ⟨h.1, fun s hs => ?_⟩
    rcases (show s = 0 ∨ s = 1 ∨ s = 2 by omega) with rfl | rfl | rfl
    · exact h.2.1
    · exact h.2.2.1
    · exact h.2.2.2
theorem PRT_congr {t m k : Nat} (hT : ∀ j, j < 3 * D.1 → D.2.1 j < D.1) (hk : k < D.1) (h : ∀ j, j < D.1 → PRT D t j = PRT D m j) : PRT D (t + 1) k = PRT D (m + 1) k := by
  refine fi_congr (fun j hj => ?_)
  rw [h j (by omega), h k hk, h _ (hT (3 * j) (by omega)), h _ (hT (3 * k) (by omega)), h _ (hT (3 * j + 1) (by omega)), h _ (hT (3 * k + 1) (by omega)), h _ (hT (3 * j + 2) (by omega)), h _ (hT (3 * k + 2) (by omega))]
/-- no further parting from t on -/
def STB (D : DF) (t : Nat) : Prop := ∀ k, k < D.1 → PRT D (t + 1) k = PRT D t k
theorem STB.up (hT : ∀ j, j < 3 * D.1 → D.2.1 j < D.1) {t : Nat} (h : STB D t) : ∀ m, t ≤ m → ∀ k, k < D.1 → PRT D m k = PRT D t k := by
  intro m
  induction m with
  | zero => intro hm k _; obtain rfl : t = 0 := by omega
            rfl
  | succ m ih =>
    intro hm k hk
    by_cases e : t = m + 1
    · rw [e]
    · rw [PRT_congr (m := t) hT hk (fun j hj => ih (by omega) j hj)]
      exact h k hk
/-- how many are the first of theirs -/
def cnf (P : Nat → Nat) : Nat → Nat
  | 0 => 0
  | n + 1 => cnf P n + (if P n = n then 1 else 0)
theorem cnf_le (P : Nat → Nat) : ∀ n, cnf P n ≤ n := by
  intro n
  induction n with
  | zero => exact Nat.le_refl _
  | succ n ih => rw [cnf]; split <;> omega
theorem cnf_mono {P P' : Nat → Nat} : ∀ n, (∀ k, k < n → P k = k → P' k = k) → cnf P n ≤ cnf P' n := by
  intro n
  induction n with
  | zero => intro _; exact Nat.le_refl _
  | succ n ih =>
    intro h
    have h1 := ih (fun k hk => h k (by omega))
    have h2 := h n (by omega)
    rw [cnf, cnf]
    by_cases e : P n = n
    · rw [if_pos e, if_pos (h2 e)]; omega
    · rw [if_neg e]; split <;> omega
theorem cnf_lt {P P' : Nat → Nat} {j : Nat} : ∀ n, (∀ k, k < n → P k = k → P' k = k) → j < n → P' j = j → P j ≠ j → cnf P n < cnf P' n := by
  intro n
  induction n with
  | zero => intro _ h; exact absurd h (Nat.not_lt_zero _)
  | succ n ih =>
    intro h hj h1 h2
    rw [cnf, cnf]
    by_cases e : j = n
    · subst e
      have := cnf_mono (P := P) (P' := P') j (fun k hk => h k (by omega))
      rw [if_pos h1, if_neg h2]; omega
    · have h3 := ih (fun k hk => h k (by omega)) (by omega) h1 h2
      have h4 := h n (by omega)
      by_cases e2 : P n = n
      · rw [if_pos e2, if_pos (h4 e2)]; omega
      · rw [if_neg e2]; split <;> omega
theorem PRT_fin (hT : ∀ j, j < 3 * D.1 → D.2.1 j < D.1) (h1 : 1 ≤ D.1) : ∃ t, t < D.1 ∧ STB D t := by
  refine Classical.byContradiction (fun hn => ?_)
  have hn' : ∀ t, t < D.1 → ¬ STB D t := fun t ht hs => hn ⟨t, ht, hs⟩
  have key : ∀ t, t ≤ D.1 → t + 1 ≤ cnf (PRT D t) D.1 := by
    intro t
    induction t with
    | zero =>
      intro _
      obtain ⟨z, hz⟩ : ∃ z, D.1 = z + 1 := ⟨D.1 - 1, by omega⟩
      have h := cnf_lt (P := fun k => k + 1) (P' := PRT D 0) (j := 0) D.1 (fun k _ hk => absurd hk (by omega)) (by omega) (Nat.le_zero.mp (PRT_le 0 0)) (by omega)
      omega
    | succ t ih =>
      intro ht
      have h2 := ih (by omega)
      have h3 := hn' t (by omega)
      have h4 : ∃ k, k < D.1 ∧ PRT D (t + 1) k ≠ PRT D t k := Classical.byContradiction (fun q => h3 (fun k hk => Classical.byContradiction (fun w => q ⟨k, hk, w⟩)))
      obtain ⟨k, hk, hne⟩ := h4
      have hle := PRT_le (D := D) (t + 1) k
      have e1 := (PRT_s.mp (PRT_id (D := D) (t + 1) k)).1
      have hmono : ∀ i, i < D.1 → PRT D t i = i → PRT D (t + 1) i = i := fun i _ hi => by
        have g1 := (PRT_s.mp (PRT_id (D := D) (t + 1) i)).1
        have g2 := PRT_le (D := D) (t + 1) i
        have g3 := PRT_le (D := D) t (PRT D (t + 1) i)
        omega
      have h5 := cnf_lt (P := PRT D t) (P' := PRT D (t + 1)) (j := PRT D (t + 1) k) D.1 hmono (by omega) (PRT_id (t + 1) k) (fun q => hne (by rw [← e1, q]))
      omega
  have g := key D.1 (Nat.le_refl _)
  have := cnf_le (PRT D D.1) D.1
  omega
theorem PL_of (hT : ∀ j, j < 3 * D.1 → D.2.1 j < D.1) (h1 : 1 ≤ D.1) {r : Nat} (h : D.1 ≤ r ∨ (1 ≤ r ∧ STB D (r - 1))) : ∀ k, k < D.1 → PRT D r k = PL D k := by
  obtain ⟨t, ht, hs⟩ := PRT_fin hT h1
  intro k hk
  rw [PL]
  rcases h with h | ⟨h, hr⟩
  · rw [hs.up hT r (by omega) k hk, hs.up hT D.1 (by omega) k hk]
  · rcases Nat.lt_or_ge (r - 1) t with z | z
    · rw [hr.up hT r (by omega) k hk, hr.up hT D.1 (by omega) k hk]
    · rw [hs.up hT r (by omega) k hk, hs.up hT D.1 (by omega) k hk]
theorem PL_stb (hT : ∀ j, j < 3 * D.1 → D.2.1 j < D.1) (h1 : 1 ≤ D.1) {j k : Nat} (hj : j < D.1) (hk : k < D.1) : PL D j = PL D k ↔ D.2.2 j = D.2.2 k ∧ PL D j = PL D k ∧ ∀ s, s < 3 → PL D (D.2.1 (3 * j + s)) = PL D (D.2.1 (3 * k + s)) := by
  have hg : ∀ t, PRT D t j = PRT D t k → D.2.2 j = D.2.2 k := by
    intro t
    induction t with
    | zero => exact fun h => PRT_0.mp h
    | succ t ih => exact fun h => ih (PRT_s.mp h).1
  refine ⟨fun h => ⟨hg _ h, h, fun s hs => ?_⟩, fun h => h.2.1⟩
  have e1 := PL_of hT h1 (r := D.1 + 1) (Or.inl (by omega))
  rw [← e1 j hj, ← e1 k hk] at h
  exact (PRT_s.mp h).2 s hs
theorem PL_lt {k : Nat} (hk : k < D.1) : PL D k < D.1 := Nat.lt_of_le_of_lt (PRT_le _ _) hk
theorem PL_id (k : Nat) : PL D (PL D k) = PL D k := PRT_id _ _
/-- the least one of a one-way one -/
def LSD (D : DF) : Option DF := (EX 32 (fun l s => PL D (D.2.1 (3 * l + s))) (fun _ => false) (PL D 0)).map (fun p => DFo p.1 p.2 D.2.2)
end SPT
end
/-! part 9sa5.cpart -/
section
section SCP
variable {μ μ0 : TMem} {k : Nat} {D : DF}
def bi (b : Bool) : Int32 := if b = true then 1 else 0
theorem bi_inj {a b : Bool} : bi a = bi b ↔ a = b := by cases a <;> cases b <;> decide
theorem bi_0 {a : Bool} : bi a = 0 ↔ a = false := by cases a <;> decide
theorem bi_B (a : Bool) : isB (bi a) := by cases a; exact Or.inl rfl; exact Or.inr rfl
theorem HP.same {μ' : TMem} (h : HP μ k D) (e1 : μ' k = μ k) (e2 : μ' (k + 1) = μ (k + 1)) : HP μ' k D := by
  obtain ⟨h1, h2, h3, h4, h5, h6⟩ := h
  exact ⟨h1, h2, h3, by rw [e1]; exact h4, by rw [e2]; exact h5, by rw [e1]; exact h6⟩
theorem e_goal {a : Nat} {Q : Int32 → Prop} (h : HP μ k D) (ha : a < D.1) (hQ : Q (bi (D.2.2 a))) : wp_X5_isGoal k μ (nI a) Q := by
  have h32 := h.2.1
  have e := h.2.2.2.2.2 a (by omega)
  rw [decide_eq_true ha, Bool.true_and] at e
  refine ⟨fun z => ?_, fun z => ?_⟩
  · rw [s_isIn (by omega), e] at z
    rw [z] at hQ
    exact ⟨Or.inl rfl, hQ⟩
  · rw [s_isIn (by omega), e] at z
    have z2 : D.2.2 a = true := by simpa using z
    rw [z2] at hQ
    exact ⟨Or.inr rfl, hQ⟩
theorem e_fog {a : Nat} {Q : Int32 → Prop} (h : HP μ k D) (ha : a < D.1) (hQ : Q (nI (PRT D 0 a))) : wp_X1_firstOfGoalness k μ (nI a) Q := by
  have h32 := h.2.1
  have go : ∀ (nf j : Nat), a - j < nf → j ≤ a → (∀ m, m < j → (D.2.2 m == D.2.2 a) = false) → wpl_X1_firstOfGoalness_2 k μ (nI a) Q nf (nI j) := by
    intro nf
    induction nf with
    | zero => intro j hk; exact absurd hk (Nat.not_lt_zero _)
    | succ nf ih =>
      intro j hk hj hno
      refine ⟨fun c => ?_, fun c => ?_⟩
      · rw [nI_leI (by omega) (by omega)] at c
        have e : PRT D 0 a = a := fi_of (Nat.le_refl a) (fun m hm => hno m (by omega)) (fun z => absurd z (Nat.lt_irrefl _))
        rw [e] at hQ
        exact hQ
      rw [nI_leI (by omega) (by omega)] at c
      refine e_goal h (by omega) (e_goal h ha ⟨fun z => ?_, fun z => ?_⟩)
      · rw [bi_inj] at z
        rw [nI_1]
        refine ih (j + 1) (by omega) (by omega) (fun m hm => ?_)
        by_cases e : m = j
        · rw [e]
          simpa using z
        · exact hno m (by omega)
      · rw [bi_inj] at z
        have e : PRT D 0 a = j := fi_of (by omega) hno (fun _ => by simpa using z)
        rw [e] at hQ
        exact hQ
  have g := go (a + 1) 0 (by omega) (Nat.zero_le _) (fun m hm => absurd hm (Nat.not_lt_zero _))
  rw [nI_0] at g
  exact ⟨_, g⟩
/-- two rows alone are changed -/
def F2 (p q : Nat) (μ μ9 : TMem) : Prop := ∀ k, k ≠ p → k ≠ q → μ9 k = μ k
theorem HP.f2 {μ' : TMem} {p q : Nat} (h : HP μ k D) (f : F2 p q μ μ') (h1 : k ≠ p ∧ k ≠ q ∧ k + 1 ≠ p ∧ k + 1 ≠ q) : HP μ' k D := h.same (f k h1.1 h1.2.1) (f _ h1.2.2.1 h1.2.2.2)
/-- the code of a state by its part and those of the next ones -/
def cds (P : Nat → Nat) (D : DF) (a : Nat) : Nat → Nat
  | 0 => P a
  | s + 1 => cds P D a s * 32 + P (D.2.1 (3 * a + s))
theorem cds_lt {P : Nat → Nat} {a : Nat} (hT : ∀ j, j < 3 * D.1 → D.2.1 j < D.1) (hP : ∀ i, i < D.1 → P i < 32) (ha : a < D.1) : ∀ s, s ≤ 3 → cds P D a s < 32 ^ (s + 1) := by
  intro s
  induction s with
  | zero => intro _; exact hP a ha
  | succ s ih =>
    intro hs
    have h1 := ih (by omega)
    have h2 := hP _ (hT (3 * a + s) (by omega))
    rw [cds, Nat.pow_succ]
    omega
theorem e_codeOf {P : Nat → Nat} {a : Nat} {Q : Int32 → Prop} (hk : kd k = 5) (h : HP μ k D) (hp : ∀ i, i < D.1 → μ 24 i = nI (P i)) (hP : ∀ i, i < D.1 → P i < 32) (ha : a < D.1) (hQ : Q (nI (cds P D a 3))) : wp_X1_codeOf k μ (nI a) Q := by
  have q5 := kd5 hk
  obtain ⟨h1, h2, h3, h4, h5, h6⟩ := h
  have lt := fun s hs => cds_lt (D := D) (P := P) (a := a) h3 hP ha s hs
  have l3 : cds P D a 3 < 2 ^ 20 := by have := lt 3 (Nat.le_refl _); omega
  have ls : ∀ s, s ≤ 3 → cds P D a s < 2 ^ 20 := fun s hs => Nat.lt_of_lt_of_le (lt s hs) (by rw [show (2 : Nat) ^ 20 = 32 ^ 4 from by decide]; exact Nat.pow_le_pow_right (by decide) (by omega))
  have go : ∀ (nf s : Nat), 3 - s < nf → s ≤ 3 → wpl_X1_codeOf_12 k μ (nI a) Q nf (nI s) (nI (cds P D a s)) := by
    intro nf
    induction nf with
    | zero => intro s hk; exact absurd hk (Nat.not_lt_zero _)
    | succ nf ih =>
      intro s hk hs
      have l1 := ls s hs
      refine ⟨fun c => ?_, fun c => ?_⟩
      · rw [show (3 : Int32) = nI 3 from rfl, nI_leI (by omega) (by omega)] at c
        rw [show s = 3 by omega]
        exact hQ
      rw [show (3 : Int32) = nI 3 from rfl, nI_leI (by omega) (by omega)] at c
      refine e_atN (by rw [q5.2]; omega) ?_
      have b1 := h3 (3 * a + s) (by omega)
      rw [h5 _ (by omega)]
      refine e_row (k := 23) (show _ < tl 24 by rw [show tl 24 = 32 from rfl]; omega) ?_
      show wpl_X1_codeOf_12 k μ (nI a) Q nf (nI s + 1) (nI (cds P D a s) * (32 : Int32) + μ 24 (D.2.1 (3 * a + s)))
      rw [hp _ b1, nI_1, show (32 : Int32) = nI 32 from rfl, s_mul, nI_add]
      exact ih (s + 1) (by omega) (by omega)
  refine e_row (k := 23) (show a < tl 24 by rw [show tl 24 = 32 from rfl]; omega) ?_
  have g := go 4 0 (by omega) (by omega)
  rw [nI_0] at g
  refine ⟨4, ?_⟩
  show wpl_X1_codeOf_12 k μ (nI a) Q 4 0 (μ 24 a)
  rw [hp a ha]
  exact g
theorem cds_inj {P : Nat → Nat} {a b : Nat} (hT : ∀ j, j < 3 * D.1 → D.2.1 j < D.1) (hP : ∀ i, i < D.1 → P i < 32) (ha : a < D.1) (hb : b < D.1) : cds P D a 3 = cds P D b 3 ↔ P a = P b ∧ P (D.2.1 (3 * a)) = P (D.2.1 (3 * b)) ∧ P (D.2.1 (3 * a + 1)) = P (D.2.1 (3 * b + 1)) ∧ P (D.2.1 (3 * a + 2)) = P (D.2.1 (3 * b + 2)) := by
  have a0 := hP _ (hT (3 * a) (by omega))
  have a1 := hP _ (hT (3 * a + 1) (by omega))
  have a2 := hP _ (hT (3 * a + 2) (by omega))
  have b0 := hP _ (hT (3 * b) (by omega))
  have b1 := hP _ (hT (3 * b + 1) (by omega))
  have b2 := hP _ (hT (3 * b + 2) (by omega))
  simp only [cds, Nat.add_zero]
  omega
theorem range_getD {f : Nat → Nat} {n i : Nat} (h : i < n) : ((List.range n).map f).getD i 0 = f i := by
  rw [List.getD_eq_getElem?_getD]
  simp [h]
/-- the first of the same code -/
theorem cds_first {t a : Nat} (hT : ∀ j, j < 3 * D.1 → D.2.1 j < D.1) (h32 : D.1 ≤ 32) (ha : a < D.1) : ((List.range D.1).map (fun i => cds (PRT D t) D i 3)).idxOf (cds (PRT D t) D a 3) = PRT D (t + 1) a := by
  have hP : ∀ i, i < D.1 → PRT D t i < 32 := fun i hi => Nat.lt_of_le_of_lt (PRT_le t i) (by omega)
  have hle := PRT_le (D := D) (t + 1) a
  have key : ∀ j, j < D.1 → ((PRT D t j == PRT D t a && (PRT D t (D.2.1 (3 * j)) == PRT D t (D.2.1 (3 * a)) && (PRT D t (D.2.1 (3 * j + 1)) == PRT D t (D.2.1 (3 * a + 1)) && PRT D t (D.2.1 (3 * j + 2)) == PRT D t (D.2.1 (3 * a + 2))))) = true ↔ cds (PRT D t) D j 3 = cds (PRT D t) D a 3) := fun j hj => by
    rw [cds_inj hT hP hj ha]
    simp only [Bool.and_eq_true, beq_iff_eq]
  have sp := fi_spec (fun j => PRT D t j == PRT D t a && (PRT D t (D.2.1 (3 * j)) == PRT D t (D.2.1 (3 * a)) && (PRT D t (D.2.1 (3 * j + 1)) == PRT D t (D.2.1 (3 * a + 1)) && PRT D t (D.2.1 (3 * j + 2)) == PRT D t (D.2.1 (3 * a + 2))))) a
  have at' := fi_at (p := fun j => PRT D t j == PRT D t a && (PRT D t (D.2.1 (3 * j)) == PRT D t (D.2.1 (3 * a)) && (PRT D t (D.2.1 (3 * j + 1)) == PRT D t (D.2.1 (3 * a + 1)) && PRT D t (D.2.1 (3 * j + 2)) == PRT D t (D.2.1 (3 * a + 2))))) (k := a) (by simp)
  refine idx_of (by simp; omega) ?_ (fun j hj => ?_)
  · rw [range_getD (by omega)]
    exact (key _ (by omega)).mp at'
  · rw [range_getD (by omega)]
    intro q
    have q2 := (key j (by omega)).mpr q
    have q3 := sp.2.1 j hj
    rw [q2] at q3
    cases q3
theorem e_partOnce {t : Nat} {Q : Int32 → TMem → Prop} (hkk : kd k = 5) (h : HP μ k D) (hp : ∀ i, i < D.1 → μ 24 i = nI (PRT D t i)) (hQ : ∀ (r : Int32) (μ9 : TMem), isB r → (r = 0 → STB D t) → (∀ i, i < D.1 → μ9 24 i = nI (PRT D (t + 1) i)) → F2 24 26 μ μ9 → Q r μ9) : wp_X1_partOnce k μ Q := by
  have q5 := kd5 hkk
  have h32 := h.2.1
  have hT := h.2.2.1
  have hP : ∀ i, i < D.1 → PRT D t i < 32 := fun i hi => Nat.lt_of_le_of_lt (PRT_le t i) (by omega)
  have cl : ∀ i, i < D.1 → cds (PRT D t) D i 3 < 2 ^ 20 := fun i hi => Nat.lt_of_lt_of_le (cds_lt hT hP hi 3 (Nat.le_refl _)) (by decide)
  have L2 : ∀ (nf a : Nat) (v : Int32) (μ1 : TMem), D.1 - a < nf → a ≤ D.1 → isB v → (v = 0 → ∀ i, i < a → PRT D (t + 1) i = PRT D t i) → (∀ i, i < D.1 → μ1 24 i = nI (if i < a then PRT D (t + 1) i else PRT D t i)) → (∀ i, i < D.1 → μ1 26 i = nI (cds (PRT D t) D i 3)) → F2 24 26 μ μ1 → wpl_X1_partOnce_34 k Q nf (nI a) v μ1 := by
    intro nf
    induction nf with
    | zero => intro a v μ1 hk; exact absurd hk (Nat.not_lt_zero _)
    | succ nf ih =>
      intro a v μ1 hk ha hv hv0 hp1 hc1 hf
      have hz : μ1 k 1 = nI D.1 := by rw [hf k (by omega) (by omega)]; exact h.2.2.2.1
      refine ⟨fun c => ?_, fun c => ?_⟩
      · rw [hz, nI_leI (by omega) (by omega)] at c
        have e : a = D.1 := by omega
        subst e
        exact ⟨hv, hQ v μ1 hv (fun q k hk => hv0 q k hk) (fun i hi => by rw [hp1 i hi, if_pos hi]) hf⟩
      rw [hz, nI_leI (by omega) (by omega)] at c
      have ha1 : a < D.1 := by omega
      have hlist : ((List.range D.1).map (fun i => cds (PRT D t) D i 3)).length = D.1 := by simp
      refine e_row (k := 25) (show a < tl 26 by rw [show tl 26 = 32 from rfl]; omega) ?_
      show wp_X6_find 25 μ1 (μ1 26 a) (μ1 k 1) _
      rw [hz, hc1 a ha1]
      have fnd : ∀ Q' : Int32 → Prop, Q' (nI (PRT D (t + 1) a)) → wp_X6_find 25 μ1 (nI (cds (PRT D t) D a 3)) (nI D.1) Q' := fun Q' hq => by
        have g := e_find (k := 25) (μ := μ1) (L := (List.range D.1).map (fun i => cds (PRT D t) D i 3)) (x := nI (cds (PRT D t) D a 3)) (Q := Q') (by rw [hlist]; exact h32) (fun i hi => by
          rw [hlist] at hi
          have := cl i hi
          rw [range_getD hi]
          show nn (μ1 26 i) = _
          rw [hc1 i hi, nn_nI (by omega)]) (fun m => by rw [nn_nI (by have := cl a ha1; omega), cds_first hT h32 ha1]; exact hq) (fun m => absurd (by
            rw [nn_nI (by have := cl a ha1; omega)]
            exact List.mem_map.mpr ⟨a, List.mem_range.mpr ha1, rfl⟩) m)
        rw [hlist] at g
        exact g
      refine fnd _ (e_row (k := 23) (show a < tl 24 by rw [show tl 24 = 32 from rfl]; omega) ?_)
      intro J hJ
      have step : ∀ j : Int32, isB j → (j = 0 → PRT D (t + 1) a = PRT D t a) → J j := fun j hj hj0 => hJ j (e_rowput (k := 23) (show a < tl 24 by rw [show tl 24 = 32 from rfl]; omega) (by
        rw [nI_1]
        refine ih (a + 1) _ _ (by omega) (by omega) (isB_or hv hj) (fun q i hi => ?_) (fun i hi => ?_) (fun i hi => ?_) (fun k' a' b' => ?_)
        · have q1 : v = 0 ∧ j = 0 := by
            rcases hv with rfl | rfl <;> rcases hj with rfl | rfl <;> first | exact ⟨rfl, rfl⟩ | exact absurd q (by decide)
          by_cases e : i = a
          · rw [e]; exact hj0 q1.2
          · exact hv0 q1.1 i (by omega)
        · show (tms μ1 24 a (nI (PRT D (t + 1) a))) 24 i = _
          rw [tms_eq]
          by_cases e : i = a
          · rw [e, upd_at, if_pos (by omega)]
          · rw [upd_ne e, hp1 i hi]
            by_cases e2 : i < a
            · rw [if_pos e2, if_pos (by omega)]
            · rw [if_neg e2, if_neg (by omega)]
        · show (tms μ1 24 a (nI (PRT D (t + 1) a))) 26 i = _
          rw [tms_ne (by decide)]
          exact hc1 i hi
        · show (tms μ1 24 a (nI (PRT D (t + 1) a))) k' = _
          rw [tms_ne a']
          exact hf k' a' b'))
      have e23 : μ1 24 a = nI (PRT D t a) := by rw [hp1 a ha1, if_neg (by omega)]
      have b1 := PRT_le (D := D) (t + 1) a
      have b2 := PRT_le (D := D) t a
      refine ⟨fun q => step 0 (Or.inl rfl) (fun _ => ?_), fun q => step 1 (Or.inr rfl) (fun z => absurd z (by decide))⟩
      have q' : nI (PRT D (t + 1) a) = μ1 24 a := q
      rw [e23, nI_eq (by omega) (by omega)] at q'
      exact q'
  have L1 : ∀ (nf a : Nat) (μ1 : TMem), D.1 - a < nf → a ≤ D.1 → (∀ i, i < D.1 → μ1 24 i = nI (PRT D t i)) → (∀ i, i < a → μ1 26 i = nI (cds (PRT D t) D i 3)) → F2 24 26 μ μ1 → wpl_X1_partOnce_2 k (fun (μ10 : TMem) => ∃ n10x, wpl_X1_partOnce_34 k Q n10x (0 : Int32) (0 : Int32) μ10) nf (nI a) μ1 := by
    intro nf
    induction nf with
    | zero => intro a μ1 hk; exact absurd hk (Nat.not_lt_zero _)
    | succ nf ih =>
      intro a μ1 hk ha hp1 hc1 hf
      have hz : μ1 k 1 = nI D.1 := by rw [hf k (by omega) (by omega)]; exact h.2.2.2.1
      refine ⟨fun c => ?_, fun c => ?_⟩
      · rw [hz, nI_leI (by omega) (by omega)] at c
        have e : a = D.1 := by omega
        have g := L2 (D.1 + 1) 0 0 μ1 (by omega) (Nat.zero_le _) (Or.inl rfl) (fun _ i hi => absurd hi (Nat.not_lt_zero _)) (fun i hi => by rw [hp1 i hi, if_neg (Nat.not_lt_zero _)]) (fun i hi => hc1 i (by omega)) hf
        rw [nI_0] at g
        exact ⟨_, g⟩
      rw [hz, nI_leI (by omega) (by omega)] at c
      refine e_codeOf (P := PRT D t) hkk (h.f2 hf (by omega)) hp1 hP (by omega) (e_rowput (k := 25) (show a < tl 26 by rw [show tl 26 = 32 from rfl]; omega) ?_)
      rw [nI_1]
      refine ih (a + 1) _ (by omega) (by omega) (fun i hi => ?_) (fun i hi => ?_) (fun k' a' b' => ?_)
      · show (tms μ1 26 a _) 24 i = _
        rw [tms_ne (by decide)]
        exact hp1 i hi
      · show (tms μ1 26 a _) 26 i = _
        rw [tms_eq]
        by_cases e : i = a
        · rw [e, upd_at]
        · rw [upd_ne e]
          exact hc1 i (by omega)
      · show (tms μ1 26 a _) k' = _
        rw [tms_ne b']
        exact hf k' a' b'
  have g := L1 (D.1 + 1) 0 μ (by omega) (Nat.zero_le _) hp (fun i hi => absurd hi (Nat.not_lt_zero _)) (fun _ _ _ => rfl)
  rw [nI_0] at g
  exact ⟨_, g⟩
theorem e_findByParting {Q : TMem → Prop} (hk : kd k = 5) (h : HP μ k D) (hQ : ∀ μ9 : TMem, (∀ i, i < D.1 → μ9 24 i = nI (PL D i)) → F2 24 26 μ μ9 → Q μ9) : wp_X1_findByParting k μ Q := by
  have q5 := kd5 hk
  have h32 := h.2.1
  have h1 := h.1
  have hT := h.2.2.1
  have L2 : ∀ (nf r : Nat) (v : Int32) (μ1 : TMem), 32 - r < nf → r ≤ 32 → (v = 0 → 1 ≤ r ∧ STB D (r - 1)) → (∀ i, i < D.1 → μ1 24 i = nI (PRT D r i)) → F2 24 26 μ μ1 → wpl_X1_findByParting_33 k Q nf (nI r) v μ1 := by
    intro nf
    induction nf with
    | zero => intro r v μ1 hk; exact absurd hk (Nat.not_lt_zero _)
    | succ nf ih =>
      intro r v μ1 hk2 hr hv hp hf
      refine ⟨fun c => ?_, fun c => ⟨fun c2 => ?_, fun c2 => ?_⟩⟩
      · rw [show (32 : Int32) = nI 32 from rfl, nI_leI (by omega) (by omega)] at c
        exact hQ μ1 (fun i hi => by rw [hp i hi, PL_of hT h1 (Or.inl (by omega)) i hi]) hf
      · exact hQ μ1 (fun i hi => by rw [hp i hi, PL_of hT h1 (Or.inr (hv c2)) i hi]) hf
      · rw [show (32 : Int32) = nI 32 from rfl, nI_leI (by omega) (by omega)] at c
        refine e_partOnce hk (h.f2 hf (by omega)) hp (fun b μ9 hb h0 hp9 hf9 => ?_)
        rw [nI_1]
        exact ih (r + 1) b μ9 (by omega) (by omega) (fun z => ⟨by omega, h0 z⟩) hp9 (fun k' a' b' => (hf9 k' a' b').trans (hf k' a' b'))
  have L1 : ∀ (nf a : Nat) (μ1 : TMem), D.1 - a < nf → a ≤ D.1 → (∀ i, i < a → μ1 24 i = nI (PRT D 0 i)) → F2 24 26 μ μ1 → wpl_X1_findByParting_2 k (fun (μ10 : TMem) => ∃ n10x, wpl_X1_findByParting_33 k Q n10x (0 : Int32) (1 : Int32) μ10) nf (nI a) μ1 := by
    intro nf
    induction nf with
    | zero => intro a μ1 hk; exact absurd hk (Nat.not_lt_zero _)
    | succ nf ih =>
      intro a μ1 hk2 ha hp hf
      have hz : μ1 k 1 = nI D.1 := by rw [hf k (by omega) (by omega)]; exact h.2.2.2.1
      refine ⟨fun c => ?_, fun c => ?_⟩
      · rw [hz, nI_leI (by omega) (by omega)] at c
        have g := L2 33 0 1 μ1 (by omega) (Nat.zero_le _) (fun z => absurd z (by decide)) (fun i hi => hp i (by omega)) hf
        rw [nI_0] at g
        exact ⟨_, g⟩
      rw [hz, nI_leI (by omega) (by omega)] at c
      refine e_fog (h.f2 hf (by omega)) (by omega) (e_rowput (k := 23) (show a < tl 24 by rw [show tl 24 = 32 from rfl]; omega) ?_)
      rw [nI_1]
      refine ih (a + 1) _ (by omega) (by omega) (fun i hi => ?_) (fun k' a' b' => ?_)
      · show (tms μ1 24 a _) 24 i = _
        rw [tms_eq]
        by_cases e : i = a
        · rw [e, upd_at]
        · rw [upd_ne e]
          exact hp i (by omega)
      · show (tms μ1 24 a _) k' = _
        rw [tms_ne a']
        exact hf k' a' b'
  have g := L1 (D.1 + 1) 0 μ (by omega) (Nat.zero_le _) (fun i hi => absurd hi (Nat.not_lt_zero _)) (fun _ _ _ => rfl)
  rw [nI_0] at g
  exact ⟨_, g⟩
end SCP
end
/-! part 9sa6.group -/
section
section SGR
variable {μ μ0 : TMem} {k k1 k2 : Nat} {D : DF}
theorem nodup_le : ∀ (n : Nat) (L : List Nat), L.Nodup → (∀ x ∈ L, x < n) → L.length ≤ n := by
  intro n
  induction n with
  | zero => intro L _ h; cases L with
            | nil => exact Nat.le_refl _
            | cons a l => exact absurd (h a List.mem_cons_self) (Nat.not_lt_zero _)
  | succ n ih =>
    intro L hd h
    by_cases e : n ∈ L
    · have h1 := ih (L.erase n) (hd.erase n) (fun x hx => by
        have := (hd.mem_erase_iff).mp hx
        have := h x this.2
        omega)
      rw [List.length_erase_of_mem e] at h1
      omega
    · have := ih L hd (fun x hx => by
        have h1 := h x hx
        have h2 : x ≠ n := fun q => e (q ▸ hx)
        omega)
      omega
theorem nodup_app {L : List Nat} {x : Nat} (h : L.Nodup) (hx : x ∉ L) : (L ++ [x]).Nodup := by
  rw [List.nodup_append]
  refine ⟨h, by simp, fun a ha b hb e => ?_⟩
  simp at hb
  exact hx (by rw [← hb, ← e]; exact ha)
theorem idx_app {L : List Nat} {x p : Nat} (h : p ∈ L) : (L ++ [x]).idxOf p = L.idxOf p := by
  rw [List.idxOf_append, if_pos h]
theorem idx_app_new {L : List Nat} {x : Nat} (h : x ∉ L) : (L ++ [x]).idxOf x = L.length := by
  rw [List.idxOf_append, if_neg h]
  simp
theorem e_fill {v : Int32} {Q : TMem → Prop} (h : ∀ μ9 : TMem, (∀ i, i < tl (k + 1) → μ9 (k + 1) i = v) → (∀ j, j ≠ k + 1 → μ9 j = μ j) → Q μ9) : wp_X6_fill k μ v Q := by
  have t2 := tlhi (k + 1)
  have go : ∀ (nf a : Nat) (μ1 : TMem), tl (k + 1) - a < nf → a ≤ tl (k + 1) → (∀ i, i < a → μ1 (k + 1) i = v) → (∀ j, j ≠ k + 1 → μ1 j = μ j) → wpl_X6_fill_2 k v Q nf (nI a) μ1 := by
    intro nf
    induction nf with
    | zero => intro a μ1 hk; exact absurd hk (Nat.not_lt_zero _)
    | succ nf ih =>
      intro a μ1 hk ha h1 h2
      refine ⟨fun c => ?_, fun c => ?_⟩
      · rw [nI_leI (by omega) (by omega)] at c
        exact h μ1 (fun i hi => h1 i (by omega)) h2
      rw [nI_leI (by omega) (by omega)] at c
      refine ⟨s_in (by omega) (by omega), ?_⟩
      rw [nI_clamp (by omega), nI_1]
      refine ih (a + 1) _ (by omega) (by omega) (fun i hi => ?_) (fun j hj => ?_)
      · rw [tms_eq]
        by_cases e : i = a
        · rw [e, upd_at]
        · rw [upd_ne e]
          exact h1 i (by omega)
      · rw [tms_ne hj]
        exact h2 j hj
  have g := go (tl (k + 1) + 1) 0 μ (by omega) (Nat.zero_le _) (fun i hi => absurd hi (Nat.not_lt_zero _)) (fun _ _ => rfl)
  rw [nI_0] at g
  exact ⟨_, g⟩
/-- what the least one's exploring asks -/
def fL (D : DF) : Nat → Nat → Nat := fun l s => PL D (D.2.1 (3 * l + s))
theorem fL_of (hT : ∀ j, j < 3 * D.1 → D.2.1 j < D.1) (h1 : 1 ≤ D.1) {m l s : Nat} (hm : m < D.1) (hl : PL D m = l) (hs : s < 3) : PL D (D.2.1 (3 * m + s)) = fL D l s := by
  have hl2 : l < D.1 := hl ▸ PL_lt hm
  have e : PL D m = PL D l := by rw [← hl, PL_id]
  exact ((PL_stb hT h1 hm hl2).mp e).2.2 s hs
theorem gL_of (hT : ∀ j, j < 3 * D.1 → D.2.1 j < D.1) (h1 : 1 ≤ D.1) {m l : Nat} (hm : m < D.1) (hl : PL D m = l) : D.2.2 m = D.2.2 l := by
  have hl2 : l < D.1 := hl ▸ PL_lt hm
  have e : PL D m = PL D l := by rw [← hl, PL_id]
  exact ((PL_stb hT h1 hm hl2).mp e).1
def EN (n : Nat) (L : List Nat) : Prop := L.Nodup ∧ ∀ x ∈ L, x < n
theorem EN.app {n x : Nat} {L : List Nat} (h : EN n L) (hx : x ∉ L) (hn : x < n) : EN n (L ++ [x]) := ⟨nodup_app h.1 hx, fun y hy => by
  rw [List.mem_append] at hy
  rcases hy with hy | hy
  · exact h.2 y hy
  · simp at hy
    omega⟩
theorem EN.room {n x : Nat} {L : List Nat} (h : EN n L) (hx : x ∉ L) (hn : x < n) : L.length < n := by
  have := nodup_le n _ (h.app hx hn).1 (h.app hx hn).2
  rw [List.length_append] at this
  simp at this
  omega
/-- where making groups stands -/
def GI (μ0 : TMem) (k2 : Nat) (D : DF) (R : Option (List Nat × List Nat)) (L T : List Nat) (a' : Nat) (μ : TMem) : Prop :=
  EI 32 (fL D) (fun _ => false) R L T ∧ EN D.1 L ∧ μ k2 1 = nI L.length ∧ (∀ i, i < L.length → ∃ m, m < D.1 ∧ μ 19 i = nI m ∧ PL D m = L.getD i 0) ∧ (∀ p, p < D.1 → μ 21 p = if p ∈ L then nI (L.idxOf p) else (-1 : Int32)) ∧ (∀ j, j < T.length → μ (k2 + 1) j = nI (T.getD j 0)) ∧ (∀ i, i < 32 → (nn (μ k2 2)).testBit i = (decide (i < a') && D.2.2 (L.getD i 0))) ∧ ∀ k, k ≠ 19 → k ≠ 21 → k ≠ k2 → k ≠ k2 + 1 → μ k = μ0 k
variable {R : Option (List Nat × List Nat)} {L T : List Nat} {a' : Nat}
theorem e_group {m : Nat} {Q : Int32 → TMem → Prop} (hk : kd k2 = 5) (h32 : D.1 ≤ 32) (hp : ∀ i, i < D.1 → μ 24 i = nI (PL D i)) (hm : m < D.1) (hz : μ k2 1 = nI L.length) (hl : L.length ≤ 32) (hn : ∀ p, p < D.1 → μ 21 p = if p ∈ L then nI (L.idxOf p) else (-1 : Int32)) (hr : PL D m ∉ L → L.length < 32) (h1 : PL D m ∈ L → Q (nI (L.idxOf (PL D m))) μ) (h2 : PL D m ∉ L → Q (nI L.length) (tms (tms (tms μ 21 (PL D m) (nI L.length)) 19 L.length (nI m)) k2 1 (nI (L.length + 1)))) : wp_X3_groupNumber k2 μ (nI m) Q := by
  have q5 := kd5 hk
  have lp := PL_lt hm
  have t1 : tl 21 = 32 := rfl
  have t2 : tl 19 = 32 := rfl
  have t3 : tl 24 = 32 := rfl
  refine e_row (k := 23) (show m < tl 24 by omega) ?_
  show wp_X6_at 20 μ (μ 24 m) _
  rw [hp m hm]
  refine e_row (k := 20) (show PL D m < tl 21 by omega) ?_
  intro J hJ
  have en := hn _ lp
  by_cases c : PL D m ∈ L
  · rw [if_pos c] at en
    have il := idx_lt c
    refine ⟨fun _ => e_row (k := 20) (show PL D m < tl 21 by omega) ?_, fun z => absurd ((show nI (L.idxOf (PL D m)) = (-1 : Int32) by rw [← en]; exact z)) (s_ne1 (by omega))⟩
    show Q (μ 21 (PL D m)) μ
    rw [en]
    exact h1 c
  · rw [if_neg c] at en
    have hl2 := hr c
    refine ⟨fun z => absurd (show μ 21 (PL D m) = (-1 : Int32) from en) z, fun _ => ?_⟩
    rw [hz]
    refine e_rowput (k := 20) (show PL D m < tl 21 by omega) ?_
    have e6 : (tms μ (20 + 1) (PL D m) (nI L.length)) k2 1 = nI L.length := by rw [tms_ne (by omega)]; exact hz
    rw [e6]
    refine e_rowput (k := 18) (show L.length < tl 19 by omega) ?_
    have e7 : (tms (tms μ (20 + 1) (PL D m) (nI L.length)) (18 + 1) L.length (nI m)) k2 1 = nI L.length := by rw [tms_ne (by omega)]; exact e6
    rw [e7, nI_1]
    refine hJ _ (e_row (k := 20) (show PL D m < tl 21 by omega) ?_)
    have e8 : (tms (tms (tms μ 21 (PL D m) (nI L.length)) 19 L.length (nI m)) k2 1 (nI (L.length + 1))) 21 (PL D m) = nI L.length := by rw [tms_ne (by omega), tms_ne (by decide), tms_eq, upd_at]
    show Q ((tms (tms (tms μ 21 (PL D m) (nI L.length)) 19 L.length (nI m)) k2 1 (nI (L.length + 1))) 21 (PL D m)) _
    rw [e8]
    exact h2 c
theorem GI.old (hk : kd k2 = 5) (h : GI μ0 k2 D R L T a' μ) (hd : ¬ 3 * L.length ≤ T.length) (hm : nxt (fL D) L T ∈ L) : GI μ0 k2 D R L (T ++ [L.idxOf (nxt (fL D) L T)]) a' (tms μ (k2 + 1) T.length (nI (L.idxOf (nxt (fL D) L T)))) := by
  have q5 := kd5 hk
  obtain ⟨h1, h0, h2, h3, h4, h5, h6, h7⟩ := h
  refine ⟨h1.old (fun z => z.elim hd (fun z => by cases z)) hm, h0, ?_, fun i hi => ?_, fun p hp => ?_, fun j hj => ?_, fun i hi => ?_, fun k a b c d => ?_⟩
  · rw [tms_ne (by omega)]; exact h2
  · rw [tms_ne (by omega)]; exact h3 i hi
  · rw [tms_ne (by omega)]; exact h4 p hp
  · rw [tms_eq]
    rw [List.length_append] at hj
    simp at hj
    by_cases e : j = T.length
    · rw [e, upd_at, getD_new]
    · rw [upd_ne e, getD_app (by omega)]
      exact h5 j (by omega)
  · rw [tms_ne (by omega)]; exact h6 i hi
  · rw [tms_ne d]; exact h7 k a b c d
theorem GI.new {m x : Nat} (hk : kd k2 = 5) (h : GI μ0 k2 D R L T a' μ) (hd : ¬ 3 * L.length ≤ T.length) (hx : x = nxt (fL D) L T) (hm : x ∉ L) (hl : ¬ 32 ≤ L.length) (ha : a' ≤ L.length) (hmD : m < D.1) (hpm : PL D m = x) : GI μ0 k2 D R (L ++ [x]) (T ++ [L.length]) a' (tms (tms (tms (tms μ 21 x (nI L.length)) 19 L.length (nI m)) k2 1 (nI (L.length + 1))) (k2 + 1) T.length (nI L.length)) := by
  have q5 := kd5 hk
  obtain ⟨h1, h0, h2, h3, h4, h5, h6, h7⟩ := h
  subst hx
  refine ⟨h1.new (fun z => z.elim hd (fun z => by cases z)) hm hl, h0.app hm (hpm ▸ PL_lt hmD), ?_, fun i hi => ?_, fun p hp => ?_, fun j hj => ?_, fun i hi => ?_, fun k a b c d => ?_⟩
  · rw [tms_ne (by omega), tms_eq, upd_at, List.length_append]
    rfl
  · rw [tms_ne (by omega), tms_ne (by omega), tms_eq]
    rw [List.length_append] at hi
    simp at hi
    by_cases e : i = L.length
    · exact ⟨m, hmD, by rw [e, upd_at], by rw [e, getD_new]; exact hpm⟩
    · rw [upd_ne e, getD_app (by omega), tms_ne (by decide)]
      exact h3 i (by omega)
  · rw [tms_ne (by omega), tms_ne (by omega), tms_ne (by decide), tms_eq]
    by_cases e : p = nxt (fL D) L T
    · rw [e, upd_at, if_pos (by simp), idx_app_new hm]
    · rw [upd_ne e, h4 p hp]
      by_cases c : p ∈ L
      · rw [if_pos c, if_pos (List.mem_append_left _ c), idx_app c]
      · rw [if_neg c, if_neg (fun z => (List.mem_append.mp z).elim c (fun w => e (by simpa using w)))]
  · rw [tms_eq]
    rw [List.length_append] at hj
    simp at hj
    by_cases e : j = T.length
    · rw [e, upd_at, getD_new]
    · rw [upd_ne e, getD_app (by omega), tms_ne (by omega), tms_ne (by omega), tms_ne (by omega)]
      exact h5 j (by omega)
  · rw [tms_ne (by omega), tms_eq, upd_ne (by decide), tms_ne (by omega), tms_ne (by omega), h6 i hi]
    by_cases e : i < a'
    · rw [getD_app (by omega)]
    · simp [e]
  · rw [tms_ne d, tms_ne c, tms_ne a, tms_ne b]; exact h7 k a b c d
theorem GI.goal {a : Nat} {r : Int32} {g : Bool} (hk : kd k2 = 5) (h : GI μ0 k2 D R L T a μ) (hg : g = D.2.2 (L.getD a 0)) (hr : ∀ i, i < 32 → (nn r).testBit i = if i = a then g else (nn (μ k2 2)).testBit i) : GI μ0 k2 D R L T (a + 1) (tms μ k2 2 r) := by
  have q5 := kd5 hk
  obtain ⟨h1, h0, h2, h3, h4, h5, h6, h7⟩ := h
  refine ⟨h1, h0, ?_, fun i hi => ?_, fun p hp => ?_, fun j hj => ?_, fun i hi => ?_, fun k p q s t => ?_⟩
  · rw [tms_eq, upd_ne (by decide)]; exact h2
  · rw [tms_ne (by omega)]; exact h3 i hi
  · rw [tms_ne (by omega)]; exact h4 p hp
  · rw [tms_ne (by omega)]; exact h5 j hj
  · rw [tms_eq, upd_at, hr i hi]
    by_cases e : i = a
    · rw [if_pos e, e, hg]
      simp
    · rw [if_neg e, h6 i hi]
      congr 1
      exact decide_eq_decide.mpr (by omega)
  · rw [tms_ne s]; exact h7 k p q s t
theorem e_gr90 {a m : Nat} {K : TMem → Prop} (hk1 : kd k1 = 5) (hk : kd k2 = 5) (h12 : k1 ≠ k2) (hP : HP μ0 k1 D) (hp : ∀ i, i < D.1 → μ0 24 i = nI (PL D i)) (hm : m < D.1)
    (hK : ∀ (L T : List Nat) (μ9 : TMem), T.length = 3 * (a + 1) → a < L.length → GI μ0 k2 D R L T (a + 1) μ9 → K μ9) :
    ∀ (nf b : Nat) (L T : List Nat) (μ17 : TMem), 3 - b < nf → b ≤ 3 → T.length = 3 * a + b → a < L.length → PL D m = L.getD a 0 → GI μ0 k2 D R L T (a + 1) μ17 → wpl_X3_makeGroups_90 k1 k2 (nI m) (nI a) K nf (nI b) μ17 := by
  have q1 := kd5 hk1
  have q5 := kd5 hk
  have hT' := hP.2.2.1
  have hD1 := hP.1
  have h32 := hP.2.1
  intro nf
  induction nf with
  | zero => intro b L T μ17 hk; exact absurd hk (Nat.not_lt_zero _)
  | succ nf ih =>
    intro b L T μ17 hnf hb hT ha hx hO
    have hO' := hO
    obtain ⟨h1, h0, h2, h3, h4, h5, h6, h7⟩ := hO'
    have hL := h1.2.1
    refine ⟨fun c => ?_, fun c => ?_⟩
    · rw [show (3 : Int32) = nI 3 from rfl, nI_leI (by omega) (by omega)] at c
      exact hK L T μ17 (by omega) ha hO
    rw [show (3 : Int32) = nI 3 from rfl, nI_leI (by omega) (by omega)] at c
    have hP1 : HP μ17 k1 D := hP.same (h7 k1 (by omega) (by omega) (by omega) (by omega)) (h7 (k1 + 1) (by omega) (by omega) (by omega) (by omega))
    have hp1 : ∀ i, i < D.1 → μ17 24 i = nI (PL D i) := fun i hi => by rw [h7 24 (by omega) (by omega) (by omega) (by omega)]; exact hp i hi
    have hd : ¬ 3 * L.length ≤ T.length := by omega
    have hq : 3 * a + b < tl (k2 + 1) := by rw [q5.2]; omega
    refine e_atN (show 3 * m + b < tl (k1 + 1) by rw [q1.2]; omega) ?_
    have lt' := hT' (3 * m + b) (by omega)
    rw [hP1.2.2.2.2.1 _ (by omega)]
    have er : PL D (D.2.1 (3 * m + b)) = nxt (fL D) L T := by rw [fL_of hT' hD1 hm hx (by omega), nxt, hT, show (3 * a + b) / 3 = a by omega, show (3 * a + b) % 3 = b by omega]
    have room : PL D (D.2.1 (3 * m + b)) ∉ L → L.length < 32 := fun z => Nat.lt_of_lt_of_le (h0.room z (PL_lt lt')) h32
    refine e_group (L := L) hk h32 hp1 lt' h2 h1.2.1 h4 room (fun q => ?_) (fun q => ?_)
    · rw [er] at q ⊢
      refine e_putN hq ?_
      rw [nI_1, ← hT]
      exact ih (b + 1) L _ _ (by omega) (by omega) (by rw [List.length_append]; simp; omega) ha hx (hO.old hk hd q)
    · have rm := room q
      refine e_putN hq ?_
      rw [nI_1, ← hT]
      exact ih (b + 1) (L ++ [PL D (D.2.1 (3 * m + b))]) _ _ (by omega) (by omega) (by rw [List.length_append]; simp; omega) (by rw [List.length_append]; simp; omega) (by rw [getD_app ha]; exact hx) (hO.new hk hd er q (by omega) (by omega) lt' rfl)
theorem e_gr45 {Q : TMem → Prop} (hk1 : kd k1 = 5) (hk : kd k2 = 5) (h12 : k1 ≠ k2) (hP : HP μ0 k1 D) (hp : ∀ i, i < D.1 → μ0 24 i = nI (PL D i))
    (hQ : ∀ (L T : List Nat) (μ9 : TMem), R = some (L, T) → GI μ0 k2 D R L T L.length μ9 → T.length = 3 * L.length → Q μ9) :
    ∀ (nf a : Nat) (L T : List Nat) (μ4 : TMem), 32 - a < nf → a ≤ L.length → T.length = 3 * a → GI μ0 k2 D R L T a μ4 → wpl_X3_makeGroups_45 k1 k2 Q nf (nI a) μ4 := by
  have q1 := kd5 hk1
  have q5 := kd5 hk
  have hT' := hP.2.2.1
  have hD1 := hP.1
  have h32 := hP.2.1
  intro nf
  induction nf with
  | zero => intro a L T μ4 hk; exact absurd hk (Nat.not_lt_zero _)
  | succ nf ih =>
    intro a L T μ4 hnf ha hT hO
    have hO' := hO
    obtain ⟨h1, h0, h2, h3, h4, h5, h6, h7⟩ := hO'
    have hL := h1.2.1
    have fin : L.length ≤ a → Q μ4 := fun c => by
      have e : a = L.length := by omega
      rw [e] at hO hT
      exact hQ L T μ4 (h1.done (Or.inl (by omega))) hO hT
    refine ⟨fun c => ?_, fun c => ⟨fun c2 => ?_, fun c2 => ?_⟩⟩
    · rw [show (32 : Int32) = nI 32 from rfl, nI_leI (by omega) (by omega)] at c
      exact fin (by omega)
    · rw [h2, nI_leI (by omega) (by omega)] at c2
      exact fin c2
    rw [h2, nI_leI (by omega) (by omega)] at c2
    refine e_row (k := 18) (show a < tl 19 by rw [show tl 19 = 32 from rfl]; omega) ?_
    obtain ⟨m, hm, em, pm⟩ := h3 a (by omega)
    show wp_X5_isGoal k1 μ4 (μ4 19 a) _
    rw [em]
    have hP1 : HP μ4 k1 D := hP.same (h7 k1 (by omega) (by omega) (by omega) (by omega)) (h7 (k1 + 1) (by omega) (by omega) (by omega) (by omega))
    refine e_goal hP1 hm (e_with (by omega) (fun r hr => ?_))
    have hb : decide (bi (D.2.2 m) ≠ 0) = D.2.2 (L.getD a 0) := by
      rw [gL_of hT' hD1 hm pm]
      cases D.2.2 (L.getD a 0) <;> decide
    have g := e_gr90 (μ0 := μ0) (R := R) (a := a) (m := m) (K := fun μ32 => wpl_X3_makeGroups_45 k1 k2 Q nf (nI a + (1 : Int32)) μ32) hk1 hk h12 hP hp hm (fun L9 T9 μ9 z1 z2 z3 => by rw [nI_1]; exact ih (a + 1) L9 T9 μ9 (by omega) (by omega) z1 z3) 4 0 L T (tms μ4 k2 2 r) (by omega) (by omega) hT (by omega) pm (hO.goal hk hb hr)
    rw [nI_0] at g
    exact ⟨_, g⟩
/-- the frame of making groups into k2, behind a parting -/
def FG (k2 : Nat) (μ μ9 : TMem) : Prop := ∀ k, k ≠ 19 → k ≠ 21 → k ≠ 24 → k ≠ 26 → k ≠ k2 → k ≠ k2 + 1 → μ9 k = μ k
theorem e_makeGroups {Q : TMem → Prop} (hk1 : kd k1 = 5) (hk : kd k2 = 5) (h12 : k1 ≠ k2) (hP : HP μ k1 D) (hp : ∀ i, i < D.1 → μ 24 i = nI (PL D i)) (hQ : ∀ (D' : DF) (μ9 : TMem), LSD D = some D' → HP μ9 k2 D' → FG k2 μ μ9 → Q μ9) : wp_X3_makeGroups k1 k2 μ Q := by
  have q1 := kd5 hk1
  have q5 := kd5 hk
  have hT' := hP.2.2.1
  have hD1 := hP.1
  have h32 := hP.2.1
  have l0 : PL D 0 < D.1 := PL_lt (by omega)
  have t1 : tl 21 = 32 := rfl
  refine e_fill (k := 20) (fun μ1 hf hr => ?_)
  show wp_X1_partOf μ1 (nI 0) _
  refine e_row (k := 23) (show 0 < tl 24 by decide) ?_
  show wp_X6_put 20 μ1 (μ1 24 0) (0 : Int32) _
  rw [hr 24 (by decide), hp 0 (by omega)]
  refine e_rowput (k := 20) (show PL D 0 < tl 21 by omega) ?_
  show wp_X6_put 18 _ (nI 0) (0 : Int32) _
  refine e_rowput (k := 18) (show 0 < tl 19 by decide) ?_
  have g := e_gr45 (μ0 := μ) (k1 := k1) (k2 := k2) (D := D) (Q := Q) (R := EX 32 (fL D) (fun _ => false) (PL D 0)) hk1 hk h12 hP hp (fun L T μ9 hR hO hT => by
      obtain ⟨z1, z0, z2, z3, z4, z5, z6, z7⟩ := hO
      refine hQ (DFo L T D.2.2) μ9 (by unfold fL at hR; rw [LSD, hR]; rfl) ⟨z1.2.2.1, z1.2.1, fun j hj => (z1.2.2.2.2 j (by have : (DFo L T D.2.2).1 = L.length := rfl; omega)).1, z2, fun j hj => z5 j (by have : (DFo L T D.2.2).1 = L.length := rfl; omega), z6⟩ (fun k a b c d e f => z7 k a b e f)) 33 0 [PL D 0] [] (tms (tms (tms (tms μ1 21 (PL D 0) (0 : Int32)) 19 0 (0 : Int32)) k2 1 (nI 1)) k2 2 (0 : Int32)) (by omega) (Nat.zero_le _) rfl ⟨EI.start _ (by decide), ⟨by simp, fun x hx => by simp at hx; omega⟩, ?_, fun i hi => ?_, fun p hp2 => ?_, fun j hj => absurd hj (Nat.not_lt_zero _), fun i hi => ?_, fun k a b c d => ?_⟩
  · rw [nI_0] at g
    exact ⟨_, g⟩
  · rw [tms_eq, upd_ne (by decide), tms_eq, upd_at]
    rfl
  · rw [tms_ne (by omega), tms_ne (by omega), tms_eq]
    simp at hi
    subst hi
    exact ⟨0, by omega, by rw [upd_at]; rfl, rfl⟩
  · rw [tms_ne (by omega), tms_ne (by omega), tms_ne (by decide), tms_eq]
    by_cases e : p = PL D 0
    · rw [e, upd_at, if_pos (by simp)]
      simp [nI_0]
    · rw [upd_ne e, if_neg (by simpa using e)]
      exact hf p (by show p < tl 21; omega)
  · rw [tms_eq, upd_at, nn_0]
    simp
  · rw [tms_ne c, tms_ne c, tms_ne a, tms_ne b]
    exact hr k b
theorem e_lessen {Q : TMem → Prop} (hk1 : kd k1 = 5) (hk : kd k2 = 5) (h12 : k1 ≠ k2) (hP : HP μ k1 D) (hQ : ∀ (D' : DF) (μ9 : TMem), LSD D = some D' → HP μ9 k2 D' → FG k2 μ μ9 → Q μ9) : wp_X3_lessen k1 k2 μ Q := by
  have q1 := kd5 hk1
  have q5 := kd5 hk
  refine e_findByParting hk1 hP (fun μ1 hp hf => e_makeGroups hk1 hk h12 (hP.f2 hf (by omega)) hp (fun D' μ9 hD hH hF => hQ D' μ9 hD hH (fun k a b c d e f => (hF k a b c d e f).trans (hf k c d))))
end SGR
end
/-! part 9sa7.mach -/
section
section SMA
variable {μ μ0 : TMem} {k k0 k1 : Nat} {D : DF}
theorem tms_ix {i j x : Nat} {v : Int32} : (tms μ k i v) j x = if j = k ∧ x = i then v else μ j x := by
  by_cases h : j = k
  · subst h
    by_cases e : x = i
    · simp [tms, upd, e]
    · simp [tms, upd, e]
  · simp [tms, h]
/-- a machine by its numbers: how many states, starts, goals, cells -/
abbrev AM := Nat × Int32 × Int32 × (Nat → Int32)
def HM (μ : TMem) (k : Nat) (A : AM) : Prop := μ k 1 = nI A.1 ∧ μ k 3 = A.2.1 ∧ μ k 2 = A.2.2.1 ∧ ∀ j, j < 3 * A.1 → μ (k + 1) j = A.2.2.2 j
/-- one object and its cells alone are changed -/
def FK (k : Nat) (μ μ9 : TMem) : Prop := ∀ j, j ≠ k → j ≠ k + 1 → μ9 j = μ j
theorem HM.same {μ' : TMem} {A : AM} (h : HM μ k A) (e1 : μ' k = μ k) (e2 : μ' (k + 1) = μ (k + 1)) : HM μ' k A := by
  obtain ⟨h1, h2, h3, h4⟩ := h
  exact ⟨by rw [e1]; exact h1, by rw [e1]; exact h2, by rw [e1]; exact h3, by rw [e2]; exact h4⟩
/-- cells ahead of p are written, those from p on are as they were -/
def WI (μs : TMem) (k0 : Nat) (v : Nat → Int32) (p : Nat) (μ1 : TMem) : Prop := (∀ j, j < p → μ1 (k0 + 1) j = v j) ∧ (∀ j, p ≤ j → μ1 (k0 + 1) j = μs (k0 + 1) j) ∧ ∀ j, j ≠ k0 + 1 → μ1 j = μs j
variable {μs : TMem} {v : Nat → Int32}
theorem WI.start : WI μs k0 v (3 * 0) μs := ⟨fun j hj => absurd hj (Nat.not_lt_zero _), fun _ _ => rfl, fun _ _ => rfl⟩
theorem WI.step {p : Nat} {μ1 : TMem} (h : WI μs k0 v p μ1) : WI μs k0 v (p + 1) (tms μ1 (k0 + 1) p (v p)) := by
  refine ⟨fun j hj => ?_, fun j hj => ?_, fun j hj => ?_⟩
  · rw [tms_eq]
    by_cases e : j = p
    · rw [e, upd_at]
    · rw [upd_ne e]
      exact h.1 j (by omega)
  · rw [tms_eq, upd_ne (by omega)]
    exact h.2.1 j (by omega)
  · rw [tms_ne hj]
    exact h.2.2 j hj
theorem kd2a (h : kd k = 2) : k = 2 ∨ k = 4 ∨ k = 6 ∨ k = 8 ∨ k = 10 ∨ k = 12 ∨ k = 29 ∨ k = 31 := kd2 h
/-- a machine becomes as another one, or the same -/
theorem e_become {A : AM} {Q : TMem → Prop} (hk0 : kd k0 = 2) (hk1 : kd k1 = 2) (h : HM μ k1 A) (h32 : A.1 ≤ 32) (hr : 3 * A.1 ≤ tl (k0 + 1)) (hr1 : 3 * A.1 ≤ tl (k1 + 1)) (hQ : ∀ μ9, HM μ9 k0 A → FK k0 μ μ9 → Q μ9) : wp_X2_become k0 k1 μ Q := by
  have q0 := kd2 hk0
  have q1 := kd2 hk1
  obtain ⟨n, st, go, c⟩ := A
  obtain ⟨h1, h2, h3, h4⟩ := h
  simp only at h1 h2 h3 h4 h32 hr hr1
  generalize hμs : (tms (tms (tms μ k0 1 (μ k1 1)) k0 3 ((tms μ k0 1 (μ k1 1)) k1 3)) k0 2 ((tms (tms μ k0 1 (μ k1 1)) k0 3 ((tms μ k0 1 (μ k1 1)) k1 3)) k1 2)) = μs
  have hs1 : μs k0 1 = nI n := by rw [← hμs]; simp [tms_ix, h1]
  have hs3 : μs k0 3 = st := by rw [← hμs]; simp [tms_ix, h2]
  have hs2 : μs k0 2 = go := by rw [← hμs]; simp [tms_ix, h3]
  have hsf : ∀ j, j ≠ k0 → μs j = μ j := fun j hj => by rw [← hμs, tms_ne hj, tms_ne hj, tms_ne hj]
  have fin : ∀ μ1, WI μs k0 c (3 * n) μ1 → Q μ1 := fun μ1 hw => hQ μ1 ⟨by rw [hw.2.2 k0 (by omega)]; exact hs1, by rw [hw.2.2 k0 (by omega)]; exact hs3, by rw [hw.2.2 k0 (by omega)]; exact hs2, fun j hj => hw.1 j hj⟩ (fun j a b => by rw [hw.2.2 j b, hsf j a])
  show ∃ n0x, wpl_X2_become_26 k0 k1 Q n0x (0 : Int32) (tms (tms (tms μ k0 1 (μ k1 1)) k0 3 ((tms μ k0 1 (μ k1 1)) k1 3)) k0 2 ((tms (tms μ k0 1 (μ k1 1)) k0 3 ((tms μ k0 1 (μ k1 1)) k1 3)) k1 2))
  rw [hμs]
  have L2 : ∀ (a : Nat) (K : TMem → Prop), a < n → (∀ μ9, WI μs k0 c (3 * a + 3) μ9 → K μ9) → ∀ (nf b : Nat) (μ1 : TMem), 3 - b < nf → b ≤ 3 → WI μs k0 c (3 * a + b) μ1 → wpl_X2_become_36 k0 k1 (nI a) K nf (nI b) μ1 := by
    intro a K ha hK nf
    induction nf with
    | zero => intro b μ1 hk; exact absurd hk (Nat.not_lt_zero _)
    | succ nf ih =>
      intro b μ1 hk hb hw
      refine ⟨fun q9 => ?_, fun q9 => ?_⟩
      · rw [show (3 : Int32) = nI 3 from rfl, nI_leI (by omega) (by omega)] at q9
        rw [show 3 * a + b = 3 * a + 3 by omega] at hw
        exact hK μ1 hw
      rw [show (3 : Int32) = nI 3 from rfl, nI_leI (by omega) (by omega)] at q9
      refine e_atN (by omega) (e_putN (by omega) ?_)
      have hv : μ1 (k1 + 1) (3 * a + b) = c (3 * a + b) := by
        by_cases e : k1 = k0
        · rw [e, hw.2.1 _ (Nat.le_refl _), hsf _ (by omega), ← e]
          exact h4 _ (by omega)
        · rw [hw.2.2 _ (by omega), hsf _ (by omega)]
          exact h4 _ (by omega)
      rw [hv]
      rw [nI_1]
      exact ih (b + 1) _ (by omega) (by omega) hw.step
  have L1 : ∀ (nf a : Nat) (μ1 : TMem), n - a < nf → a ≤ n → WI μs k0 c (3 * a) μ1 → wpl_X2_become_26 k0 k1 Q nf (nI a) μ1 := by
    intro nf
    induction nf with
    | zero => intro a μ1 hk; exact absurd hk (Nat.not_lt_zero _)
    | succ nf ih =>
      intro a μ1 hk ha hw
      have hz : μ1 k0 1 = nI n := by rw [hw.2.2 k0 (by omega)]; exact hs1
      refine ⟨fun q9 => ?_, fun q9 => ?_⟩
      · rw [hz, nI_leI (by omega) (by omega)] at q9
        rw [show a = n by omega] at hw
        exact fin μ1 hw
      rw [hz, nI_leI (by omega) (by omega)] at q9
      have g := L2 a (fun μ9 => wpl_X2_become_26 k0 k1 Q nf (nI a + (1 : Int32)) μ9) (by omega) (fun μ9 h9 => by rw [nI_1]; exact ih (a + 1) μ9 (by omega) (by omega) h9) 4 0 μ1 (by omega) (by omega) hw
      rw [nI_0] at g
      exact ⟨_, g⟩
  have g := L1 (n + 1) 0 μs (by omega) (Nat.zero_le _) (WI.start)
  rw [nI_0] at g
  exact ⟨_, g⟩
/-- a mask out of flags -/
def gmk (g : Nat → Bool) : Nat → Int32
  | 0 => 0
  | i + 1 => if g i = true then gmk g i ||| ((1 : Int32) <<< (nI i &&& 31)) else gmk g i
theorem gmk_bit {g : Nat → Bool} : ∀ z, z ≤ 32 → ∀ i, (nn (gmk g z)).testBit i = (decide (i < z) && g i) := by
  intro z
  induction z with
  | zero => intro _ i; rw [gmk, nn_0]; simp
  | succ z ih =>
    intro hz i
    have h := ih (by omega) i
    rw [gmk]
    by_cases e : i = z
    · subst e
      cases q : g i with
      | true => rw [if_pos rfl, nn_or, nn_two i (by omega), s_or2]; simp
      | false => rw [if_neg (by decide), h]; simp
    · have e2 : ¬ z = i := fun w => e w.symm
      have e3 : decide (i < z + 1) = decide (i < z) := decide_eq_decide.mpr (by omega)
      by_cases q : g z = true
      · rw [if_pos q, nn_or, nn_two z (by omega), s_or2, h, e3]; simp [e2]
      · rw [if_neg q, h, e3]
theorem gmk_of {x : Int32} {g : Nat → Bool} {z : Nat} (hz : z ≤ 32) (h : ∀ i, i < 32 → (nn x).testBit i = (decide (i < z) && g i)) : x = gmk g z := by
  refine nn_inj (s_ext (fun i => ?_))
  rw [gmk_bit z hz]
  by_cases e : i < 32
  · exact h i e
  · rw [s_big (nn_lt x) (by omega)]
    have : ¬ i < z := by omega
    simp [this]
/-- a one-way machine as a machine -/
def aP (D : DF) : AM := (D.1, 1, gmk D.2.2 D.1, fun j => if j < 3 * D.1 then (1 : Int32) <<< (nI (D.2.1 j) &&& 31) else 0)
theorem e_becomePlain {Q : TMem → Prop} (hk0 : kd k0 = 2) (hk1 : kd k1 = 5) (h : HP μ k1 D) (hr : 3 * D.1 ≤ tl (k0 + 1)) (hQ : ∀ μ9, HM μ9 k0 (aP D) → FK k0 μ μ9 → Q μ9) : wp_X2_becomePlain k0 k1 μ Q := by
  have q0 := kd2 hk0
  have q1 := kd5 hk1
  obtain ⟨n, T, gl⟩ := D
  obtain ⟨p1, h32, hT, h1, h4, h3⟩ := h
  simp only at p1 h32 hT h1 h4 h3 hr
  generalize hμs : (tms (tms (tms μ k0 1 (μ k1 1)) k0 3 (1 : Int32)) k0 2 ((tms (tms μ k0 1 (μ k1 1)) k0 3 (1 : Int32)) k1 2)) = μs
  have hs1 : μs k0 1 = nI n := by rw [← hμs]; simp [tms_ix, h1]
  have hs3 : μs k0 3 = 1 := by rw [← hμs]; simp [tms_ix]
  have hs2 : μs k0 2 = gmk gl n := by
    have e := gmk_of h32 h3
    rw [← hμs]; simp [tms_ix, e]
  have hsf : ∀ j, j ≠ k0 → μs j = μ j := fun j hj => by rw [← hμs, tms_ne hj, tms_ne hj, tms_ne hj]
  have fin : ∀ μ1, WI μs k0 (fun j => (1 : Int32) <<< (nI (T j) &&& 31)) (3 * n) μ1 → Q μ1 := fun μ1 hw => hQ μ1 ⟨by rw [hw.2.2 k0 (by omega)]; exact hs1, by rw [hw.2.2 k0 (by omega)]; exact hs3, by rw [hw.2.2 k0 (by omega)]; exact hs2, fun j hj => by
    rw [hw.1 j hj]
    show _ = if j < 3 * n then _ else _
    rw [if_pos (show j < 3 * n from hj)]⟩ (fun j a b => by rw [hw.2.2 j b, hsf j a])
  show ∃ n0x, wpl_X2_becomePlain_23 k0 k1 Q n0x (0 : Int32) (tms (tms (tms μ k0 1 (μ k1 1)) k0 3 (1 : Int32)) k0 2 ((tms (tms μ k0 1 (μ k1 1)) k0 3 (1 : Int32)) k1 2))
  rw [hμs]
  have L2 : ∀ (a : Nat) (K : TMem → Prop), a < n → (∀ μ9, WI μs k0 (fun j => (1 : Int32) <<< (nI (T j) &&& 31)) (3 * a + 3) μ9 → K μ9) → ∀ (nf b : Nat) (μ1 : TMem), 3 - b < nf → b ≤ 3 → WI μs k0 (fun j => (1 : Int32) <<< (nI (T j) &&& 31)) (3 * a + b) μ1 → wpl_X2_becomePlain_33 k0 k1 (nI a) K nf (nI b) μ1 := by
    intro a K ha hK nf
    induction nf with
    | zero => intro b μ1 hk; exact absurd hk (Nat.not_lt_zero _)
    | succ nf ih =>
      intro b μ1 hk hb hw
      refine ⟨fun q9 => ?_, fun q9 => ?_⟩
      · rw [show (3 : Int32) = nI 3 from rfl, nI_leI (by omega) (by omega)] at q9
        rw [show 3 * a + b = 3 * a + 3 by omega] at hw
        exact hK μ1 hw
      rw [show (3 : Int32) = nI 3 from rfl, nI_leI (by omega) (by omega)] at q9
      refine e_atN (by rw [q1.2]; omega) (e_putN (by omega) ?_)
      have hv : μ1 (k1 + 1) (3 * a + b) = nI (T (3 * a + b)) := by rw [hw.2.2 _ (by omega), hsf _ (by omega), h4 _ (by omega)]
      rw [hv]
      rw [nI_1]
      exact ih (b + 1) _ (by omega) (by omega) hw.step
  have L1 : ∀ (nf a : Nat) (μ1 : TMem), n - a < nf → a ≤ n → WI μs k0 (fun j => (1 : Int32) <<< (nI (T j) &&& 31)) (3 * a) μ1 → wpl_X2_becomePlain_23 k0 k1 Q nf (nI a) μ1 := by
    intro nf
    induction nf with
    | zero => intro a μ1 hk; exact absurd hk (Nat.not_lt_zero _)
    | succ nf ih =>
      intro a μ1 hk ha hw
      have hz : μ1 k0 1 = nI n := by rw [hw.2.2 k0 (by omega)]; exact hs1
      refine ⟨fun q9 => ?_, fun q9 => ?_⟩
      · rw [hz, nI_leI (by omega) (by omega)] at q9
        rw [show a = n by omega] at hw
        exact fin μ1 hw
      rw [hz, nI_leI (by omega) (by omega)] at q9
      have g := L2 a (fun μ9 => wpl_X2_becomePlain_23 k0 k1 Q nf (nI a + (1 : Int32)) μ9) (by omega) (fun μ9 h9 => by rw [nI_1]; exact ih (a + 1) μ9 (by omega) (by omega) h9) 4 0 μ1 (by omega) (by omega) hw
      rw [nI_0] at g
      exact ⟨_, g⟩
  have g := L1 (n + 1) 0 μs (by omega) (Nat.zero_le _) (WI.start)
  rw [nI_0] at g
  exact ⟨_, g⟩
/-- the states from which arrows lead to one -/
def SRg (c : Nat → Int32) (to s : Nat) : Nat → Int32
  | 0 => 0
  | i + 1 => if (nn (c (3 * i + s))).testBit to = true then SRg c to s i ||| ((1 : Int32) <<< (nI i &&& 31)) else SRg c to s i
theorem SRg_bit {c : Nat → Int32} {to s : Nat} : ∀ z, z ≤ 32 → ∀ i, (nn (SRg c to s z)).testBit i = (decide (i < z) && (nn (c (3 * i + s))).testBit to) := by
  intro z
  induction z with
  | zero => intro _ i; rw [SRg, nn_0]; simp
  | succ z ih =>
    intro hz i
    have h := ih (by omega) i
    rw [SRg]
    by_cases e : i = z
    · subst e
      cases q : (nn (c (3 * i + s))).testBit to with
      | true => rw [if_pos rfl, nn_or, nn_two i (by omega), s_or2]; simp
      | false => rw [if_neg (by decide), h]; simp
    · have e2 : ¬ z = i := fun w => e w.symm
      have e3 : decide (i < z + 1) = decide (i < z) := decide_eq_decide.mpr (by omega)
      by_cases q : (nn (c (3 * z + s))).testBit to = true
      · rw [if_pos q, nn_or, nn_two z (by omega), s_or2, h, e3]; simp [e2]
      · rw [if_neg q, h, e3]
theorem e_sources {c : Nat → Int32} {n to s : Nat} {Q : Int32 → Prop} (hn : μ k 1 = nI n) (hn32 : n ≤ 32) (hto : to < 32) (ht : 3 * n ≤ tl (k + 1)) (hs : s < 3) (hc : ∀ j, j < 3 * n → μ (k + 1) j = c j) (h : Q (SRg c to s n)) : wp_X2_sources k μ (nI to) (nI s) Q := by
  have L : ∀ (nf a : Nat), n - a < nf → a ≤ n → wpl_X2_sources_5 k μ (nI to) (nI s) Q nf (nI a) (SRg c to s a) := by
    intro nf
    induction nf with
    | zero => intro a hk; exact absurd hk (Nat.not_lt_zero _)
    | succ nf ih =>
      intro a hk ha
      refine ⟨fun q => ?_, fun q => ?_⟩
      · rw [hn, nI_leI (by omega) (by omega)] at q
        rw [show a = n by omega]
        exact h
      rw [hn, nI_leI (by omega) (by omega)] at q
      have g := ih (a + 1) (by omega) (by omega)
      refine e_atN (by omega) ?_
      rw [hc _ (by omega)]
      refine ⟨fun z => ⟨fun _ => ?_, fun w => absurd rfl w⟩, fun z => ⟨fun w => absurd w (by decide), fun _ => ?_⟩⟩
      · rw [s_isIn hto] at z
        rw [SRg, if_neg (by rw [z]; decide)] at g
        rw [nI_1]
        exact g
      · rw [s_isIn hto] at z
        rw [SRg, if_pos (by simpa using z)] at g
        rw [nI_1]
        exact g
  have g := L (n + 1) 0 (by omega) (Nat.zero_le _)
  rw [nI_0] at g
  exact ⟨_, g⟩
/-- a machine turned round -/
def aT (A : AM) : AM := (A.1, A.2.2.1, A.2.1, fun j => if j < 3 * A.1 then SRg A.2.2.2 (j / 3) (j % 3) A.1 else 0)
theorem e_becomeRound {A : AM} {Q : TMem → Prop} (hk0 : kd k0 = 2) (hk1 : kd k1 = 2) (h01 : k0 ≠ k1) (h : HM μ k1 A) (h32 : A.1 ≤ 32) (hr : 3 * A.1 ≤ tl (k0 + 1)) (hr1 : 3 * A.1 ≤ tl (k1 + 1)) (hQ : ∀ μ9, HM μ9 k0 (aT A) → FK k0 μ μ9 → Q μ9) : wp_X2_becomeRound k0 k1 μ Q := by
  have q0 := kd2 hk0
  have q1 := kd2 hk1
  obtain ⟨n, st, go, c⟩ := A
  obtain ⟨h1, h2, h3, h4⟩ := h
  simp only at h1 h2 h3 h4 h32 hr hr1
  generalize hμs : (tms (tms (tms μ k0 1 (μ k1 1)) k0 3 ((tms μ k0 1 (μ k1 1)) k1 2)) k0 2 ((tms (tms μ k0 1 (μ k1 1)) k0 3 ((tms μ k0 1 (μ k1 1)) k1 2)) k1 3)) = μs
  have h10 : ¬ k1 = k0 := fun e => h01 e.symm
  have hs1 : μs k0 1 = nI n := by rw [← hμs]; simp [tms_ix, h1]
  have hs3 : μs k0 3 = go := by rw [← hμs]; simp [tms_ix, h3]
  have hs2 : μs k0 2 = st := by rw [← hμs]; simp [tms_ix, h2, h10]
  have hsf : ∀ j, j ≠ k0 → μs j = μ j := fun j hj => by rw [← hμs, tms_ne hj, tms_ne hj, tms_ne hj]
  have fin : ∀ μ1, WI μs k0 (fun j => SRg c (j / 3) (j % 3) n) (3 * n) μ1 → Q μ1 := fun μ1 hw => hQ μ1 ⟨by rw [hw.2.2 k0 (by omega)]; exact hs1, by rw [hw.2.2 k0 (by omega)]; exact hs3, by rw [hw.2.2 k0 (by omega)]; exact hs2, fun j hj => by
    rw [hw.1 j hj]
    show _ = if j < 3 * n then _ else _
    rw [if_pos (show j < 3 * n from hj)]⟩ (fun j a b => by rw [hw.2.2 j b, hsf j a])
  show ∃ n0x, wpl_X2_becomeRound_26 k0 k1 Q n0x (0 : Int32) (tms (tms (tms μ k0 1 (μ k1 1)) k0 3 ((tms μ k0 1 (μ k1 1)) k1 2)) k0 2 ((tms (tms μ k0 1 (μ k1 1)) k0 3 ((tms μ k0 1 (μ k1 1)) k1 2)) k1 3))
  rw [hμs]
  have L2 : ∀ (a : Nat) (K : TMem → Prop), a < n → (∀ μ9, WI μs k0 (fun j => SRg c (j / 3) (j % 3) n) (3 * a + 3) μ9 → K μ9) → ∀ (nf b : Nat) (μ1 : TMem), 3 - b < nf → b ≤ 3 → WI μs k0 (fun j => SRg c (j / 3) (j % 3) n) (3 * a + b) μ1 → wpl_X2_becomeRound_36 k0 k1 (nI a) K nf (nI b) μ1 := by
    intro a K ha hK nf
    induction nf with
    | zero => intro b μ1 hk; exact absurd hk (Nat.not_lt_zero _)
    | succ nf ih =>
      intro b μ1 hk hb hw
      refine ⟨fun q9 => ?_, fun q9 => ?_⟩
      · rw [show (3 : Int32) = nI 3 from rfl, nI_leI (by omega) (by omega)] at q9
        rw [show 3 * a + b = 3 * a + 3 by omega] at hw
        exact hK μ1 hw
      rw [show (3 : Int32) = nI 3 from rfl, nI_leI (by omega) (by omega)] at q9
      have e1 : μ1 k1 = μ k1 := by rw [hw.2.2 _ (by omega), hsf _ h10]
      have e2 : μ1 (k1 + 1) = μ (k1 + 1) := by rw [hw.2.2 _ (by omega), hsf _ (by omega)]
      refine e_sources (c := c) (n := n) (by rw [e1]; exact h1) h32 (by omega) hr1 (by omega) (fun j hj => by rw [e2]; exact h4 j hj) (e_putN (by omega) ?_)
      rw [show SRg c a b n = (fun j => SRg c (j / 3) (j % 3) n) (3 * a + b) by show _ = SRg c ((3 * a + b) / 3) ((3 * a + b) % 3) n; rw [show (3 * a + b) / 3 = a by omega, show (3 * a + b) % 3 = b by omega]]
      rw [nI_1]
      exact ih (b + 1) _ (by omega) (by omega) hw.step
  have L1 : ∀ (nf a : Nat) (μ1 : TMem), n - a < nf → a ≤ n → WI μs k0 (fun j => SRg c (j / 3) (j % 3) n) (3 * a) μ1 → wpl_X2_becomeRound_26 k0 k1 Q nf (nI a) μ1 := by
    intro nf
    induction nf with
    | zero => intro a μ1 hk; exact absurd hk (Nat.not_lt_zero _)
    | succ nf ih =>
      intro a μ1 hk ha hw
      have hz : μ1 k0 1 = nI n := by rw [hw.2.2 k0 (by omega)]; exact hs1
      refine ⟨fun q9 => ?_, fun q9 => ?_⟩
      · rw [hz, nI_leI (by omega) (by omega)] at q9
        rw [show a = n by omega] at hw
        exact fin μ1 hw
      rw [hz, nI_leI (by omega) (by omega)] at q9
      have g := L2 a (fun μ9 => wpl_X2_becomeRound_26 k0 k1 Q nf (nI a + (1 : Int32)) μ9) (by omega) (fun μ9 h9 => by rw [nI_1]; exact ih (a + 1) μ9 (by omega) (by omega) h9) 4 0 μ1 (by omega) (by omega) hw
      rw [nI_0] at g
      exact ⟨_, g⟩
  have g := L1 (n + 1) 0 μs (by omega) (Nat.zero_le _) (WI.start)
  rw [nI_0] at g
  exact ⟨_, g⟩
end SMA
end
/-! part 9sa8.mach2 -/
section
section SMB
variable {μ μ0 : TMem} {k k0 k1 : Nat}
/-- how many arrows: of the first i cells -/
noncomputable def ACn (c : Nat → Int32) : Nat → Int32
  | 0 => 0
  | i + 1 => ACn c i + pop (c i)
noncomputable def AC (A : AM) : Int32 := ACn A.2.2.2 (3 * A.1)
theorem AN_ACn {n ch seed : Int32} : ∀ i, AN n ch seed i = ACn (CE n ch seed) i := by
  intro i
  induction i with
  | zero => rfl
  | succ i ih => rw [AN, ACn, ih]
theorem ACn_congr {c d : Nat → Int32} : ∀ i, (∀ j, j < i → c j = d j) → ACn c i = ACn d i := by
  intro i
  induction i with
  | zero => intro _; rfl
  | succ i ih => intro h; rw [ACn, ACn, ih (fun j hj => h j (by omega)), h i (by omega)]
theorem ACn_zero {c : Nat → Int32} {n : Nat} (h : ∀ j, n ≤ j → c j = 0) : ∀ i, n ≤ i → ACn c i = ACn c n := by
  intro i
  induction i with
  | zero => intro hi; rw [show n = 0 by omega]
  | succ i ih =>
    intro hi
    by_cases e : n = i + 1
    · rw [e]
    · rw [ACn, h i (by omega), pop_0, Int32.add_zero, ih (by omega)]
theorem e_countA {n : Nat} {c : Nat → Int32} {Q : Int32 → Prop} (hn : μ k 1 = nI n) (h32 : n ≤ 32) (hr : 3 * n ≤ tl (k + 1)) (hc : ∀ j, j < 3 * n → μ (k + 1) j = c j) (hQ : Q (ACn c (3 * n))) : wp_X2_countArrows k μ Q := by
  have L2 : ∀ (a : Nat) (K : Int32 → Prop), a < n → K (ACn c (3 * a + 3)) → ∀ (nf b : Nat), 3 - b < nf → b ≤ 3 → wpl_X2_countArrows_14 k μ (nI a) K nf (nI b) (ACn c (3 * a + b)) := by
    intro a K ha hK nf
    induction nf with
    | zero => intro b hk; exact absurd hk (Nat.not_lt_zero _)
    | succ nf ih =>
      intro b hk hb
      refine ⟨fun q9 => ?_, fun q9 => ?_⟩
      · rw [show (3 : Int32) = nI 3 from rfl, nI_leI (by omega) (by omega)] at q9
        rw [show 3 * a + b = 3 * a + 3 by omega]
        exact hK
      rw [show (3 : Int32) = nI 3 from rfl, nI_leI (by omega) (by omega)] at q9
      refine e_atN (by omega) ?_
      rw [hc _ (by omega)]
      refine pop_w ?_
      rw [nI_1]
      exact ih (b + 1) (by omega) (by omega)
  have L1 : ∀ (nf a : Nat), n - a < nf → a ≤ n → wpl_X2_countArrows_4 k μ Q nf (nI a) (ACn c (3 * a)) := by
    intro nf
    induction nf with
    | zero => intro a hk; exact absurd hk (Nat.not_lt_zero _)
    | succ nf ih =>
      intro a hk ha
      refine ⟨fun q9 => ?_, fun q9 => ?_⟩
      · rw [hn, nI_leI (by omega) (by omega)] at q9
        rw [show a = n by omega]
        exact hQ
      rw [hn, nI_leI (by omega) (by omega)] at q9
      have g := L2 a (fun u => wpl_X2_countArrows_4 k μ Q nf (nI a + (1 : Int32)) u) (by omega) (by rw [nI_1]; exact ih (a + 1) (by omega) (by omega)) 4 0 (by omega) (by omega)
      rw [nI_0] at g
      exact ⟨_, g⟩
  have g := L1 (n + 1) 0 (by omega) (Nat.zero_le _)
  rw [nI_0] at g
  exact ⟨_, g⟩
/-- plain -/
def aPl (A : AM) : Prop := (∀ j, j < 3 * A.1 → pop (A.2.2.2 j) = 1) ∧ pop A.2.1 = 1
theorem e_isPlain {A : AM} {Q : Int32 → Prop} (h : HM μ k A) (h32 : A.1 ≤ 32) (hr : 3 * A.1 ≤ tl (k + 1)) (h1 : aPl A → Q 1) (h0 : ¬ aPl A → Q 0) : wp_X2_isPlain k μ Q := by
  obtain ⟨n, st, go, c⟩ := A
  obtain ⟨hn, hs, hg, hc⟩ := h
  simp only at hn hs hg hc h32 hr
  have L2 : ∀ (a : Nat) (K : Prop), a < n → ((∀ j, j < 3 * a + 3 → pop (c j) = 1) → K) → ∀ (nf b : Nat), 3 - b < nf → b ≤ 3 → (∀ j, j < 3 * a + b → pop (c j) = 1) → wpl_X2_isPlain_12 k μ (nI a) K Q nf (nI b) := by
    intro a K ha hK nf
    induction nf with
    | zero => intro b hk; exact absurd hk (Nat.not_lt_zero _)
    | succ nf ih =>
      intro b hk hb hp
      refine ⟨fun q9 => ?_, fun q9 => ?_⟩
      · rw [show (3 : Int32) = nI 3 from rfl, nI_leI (by omega) (by omega)] at q9
        exact hK (fun j hj => hp j (by omega))
      rw [show (3 : Int32) = nI 3 from rfl, nI_leI (by omega) (by omega)] at q9
      refine e_atN (by omega) ?_
      rw [hc _ (by omega)]
      refine pop_w ⟨fun z => ?_, fun z => h0 (fun w => z (w.1 _ (by show 3 * a + b < 3 * n; omega)))⟩
      rw [nI_1]
      refine ih (b + 1) (by omega) (by omega) (fun j hj => ?_)
      by_cases e : j = 3 * a + b
      · rw [e]; exact z
      · exact hp j (by omega)
  have L1 : ∀ (nf a : Nat), n - a < nf → a ≤ n → (∀ j, j < 3 * a → pop (c j) = 1) → wpl_X2_isPlain_2 k μ (wp_J6_bitCount_0f7a4 (μ k 3) (fun (r15 : Int32) => (¬ r15 = (1 : Int32) → (Q (0 : Int32))) ∧ (r15 = (1 : Int32) → (Q (1 : Int32))))) Q nf (nI a) := by
    intro nf
    induction nf with
    | zero => intro a hk; exact absurd hk (Nat.not_lt_zero _)
    | succ nf ih =>
      intro a hk ha hp
      refine ⟨fun q9 => ?_, fun q9 => ?_⟩
      · rw [hn, nI_leI (by omega) (by omega)] at q9
        rw [hs]
        exact pop_w ⟨fun z => h0 (fun w => z w.2), fun z => h1 ⟨fun j hj => hp j (by have : j < 3 * n := hj; omega), z⟩⟩
      rw [hn, nI_leI (by omega) (by omega)] at q9
      have g := L2 a (wpl_X2_isPlain_2 k μ (wp_J6_bitCount_0f7a4 (μ k 3) (fun (r15 : Int32) => (¬ r15 = (1 : Int32) → (Q (0 : Int32))) ∧ (r15 = (1 : Int32) → (Q (1 : Int32))))) Q nf (nI a + (1 : Int32))) (by omega) (fun hp2 => by rw [nI_1]; exact ih (a + 1) (by omega) (by omega) (fun j hj => hp2 j (by omega))) 4 0 (by omega) (by omega) (fun j hj => hp j (by omega))
      rw [nI_0] at g
      exact ⟨_, g⟩
  have g := L1 (n + 1) 0 (by omega) (Nat.zero_le _) (fun j hj => absurd hj (Nat.not_lt_zero _))
  rw [nI_0] at g
  exact ⟨_, g⟩
theorem e_sameT {n n' : Nat} {c c' : Nat → Int32} {Q : Int32 → Prop} (ha : μ k0 1 = nI n) (hb : μ k1 1 = nI n') (hn : n ≤ 32) (hn' : n' ≤ 32) (hr0 : 3 * n ≤ tl (k0 + 1)) (hr1 : 3 * n' ≤ tl (k1 + 1)) (hca : ∀ j, j < 3 * n → μ (k0 + 1) j = c j) (hcb : ∀ j, j < 3 * n' → μ (k1 + 1) j = c' j) (h1 : n = n' → μ k0 2 = μ k1 2 → (∀ j, j < 3 * n → c j = c' j) → Q 1) (h0 : ¬ (n = n' ∧ μ k0 2 = μ k1 2 ∧ ∀ j, j < 3 * n → c j = c' j) → Q 0) : wp_X7_isSameTable k0 k1 μ Q := by
  refine ⟨fun z => h0 (fun w => z (by rw [ha, hb, w.1])), fun z => ⟨fun z2 => ?_, fun z2 => h0 (fun w => z2 w.2.1)⟩⟩
  rw [ha, hb, nI_eq (by omega) (by omega)] at z
  subst z
  have L2 : ∀ (a : Nat) (K : Prop), a < n → ((∀ j, j < 3 * a + 3 → c j = c' j) → K) → ∀ (nf b : Nat), 3 - b < nf → b ≤ 3 → (∀ j, j < 3 * a + b → c j = c' j) → wpl_X7_isSameTable_36 k0 k1 μ (nI a) K Q nf (nI b) := by
    intro a K ha' hK nf
    induction nf with
    | zero => intro b hk; exact absurd hk (Nat.not_lt_zero _)
    | succ nf ih =>
      intro b hk hb' hp
      refine ⟨fun q9 => ?_, fun q9 => ?_⟩
      · rw [show (3 : Int32) = nI 3 from rfl, nI_leI (by omega) (by omega)] at q9
        exact hK (fun j hj => hp j (by omega))
      rw [show (3 : Int32) = nI 3 from rfl, nI_leI (by omega) (by omega)] at q9
      refine e_atN (by omega) (e_atN (by omega) ?_)
      rw [hca _ (by omega), hcb _ (by omega)]
      refine ⟨fun z => ?_, fun z => h0 (fun w => z (w.2.2 _ (by omega)))⟩
      rw [nI_1]
      refine ih (b + 1) (by omega) (by omega) (fun j hj => ?_)
      by_cases e : j = 3 * a + b
      · rw [e]; exact z
      · exact hp j (by omega)
  have L1 : ∀ (nf a : Nat), n - a < nf → a ≤ n → (∀ j, j < 3 * a → c j = c' j) → wpl_X7_isSameTable_26 k0 k1 μ Q nf (nI a) := by
    intro nf
    induction nf with
    | zero => intro a hk; exact absurd hk (Nat.not_lt_zero _)
    | succ nf ih =>
      intro a hk ha' hp
      refine ⟨fun q9 => ?_, fun q9 => ?_⟩
      · rw [ha, nI_leI (by omega) (by omega)] at q9
        exact h1 rfl z2 (fun j hj => hp j (by omega))
      rw [ha, nI_leI (by omega) (by omega)] at q9
      have g := L2 a (wpl_X7_isSameTable_26 k0 k1 μ Q nf (nI a + (1 : Int32))) (by omega) (fun hp2 => by rw [nI_1]; exact ih (a + 1) (by omega) (by omega) (fun j hj => hp2 j (by omega))) 4 0 (by omega) (by omega) (fun j hj => hp j (by omega))
      rw [nI_0] at g
      exact ⟨_, g⟩
  have g := L1 (n + 1) 0 (by omega) (Nat.zero_le _) (fun j hj => absurd hj (Nat.not_lt_zero _))
  rw [nI_0] at g
  exact ⟨_, g⟩
/-- the same machine -/
def aSm (A B : AM) : Prop := A.1 = B.1 ∧ A.2.1 = B.2.1 ∧ A.2.2.1 = B.2.2.1 ∧ ∀ j, j < 3 * A.1 → A.2.2.2 j = B.2.2.2 j
theorem e_isSame {A B : AM} {Q : Int32 → Prop} (hA : HM μ k0 A) (hB : HM μ k1 B) (hn : A.1 ≤ 32) (hn' : B.1 ≤ 32) (hr0 : 3 * A.1 ≤ tl (k0 + 1)) (hr1 : 3 * B.1 ≤ tl (k1 + 1)) (h1 : aSm A B → Q 1) (h0 : ¬ aSm A B → Q 0) : wp_X2_isSameAs k0 k1 μ Q := by
  obtain ⟨a1, a2, a3, a4⟩ := hA
  obtain ⟨b1, b2, b3, b4⟩ := hB
  refine ⟨fun z => h0 (fun w => z (by rw [a2, b2, w.2.1])), fun z => ?_⟩
  rw [a2, b2] at z
  refine e_sameT a1 b1 hn hn' hr0 hr1 a4 b4 (fun e1 e2 e3 => ⟨fun q => absurd q (by decide), fun _ => h1 ⟨e1, z, by rw [← a3, ← b3]; exact e2, e3⟩⟩) (fun w => ⟨fun _ => h0 (fun w2 => w ⟨w2.1, by rw [a3, b3]; exact w2.2.2.1, w2.2.2.2⟩), fun q => absurd rfl q⟩)
theorem e_addState {A : AM} {Q : TMem → Prop} (hk0 : kd k0 = 2) (h : HM μ k0 A) (h32 : A.1 < 32) (hr : 3 * A.1 + 3 ≤ tl (k0 + 1)) (hz : ∀ j, 3 * A.1 ≤ j → A.2.2.2 j = 0) (hQ : ∀ μ9, HM μ9 k0 (A.1 + 1, A.2) → FK k0 μ μ9 → Q μ9) : wp_X2_addState k0 μ Q := by
  have q0 := kd2 hk0
  obtain ⟨n, st, go, c⟩ := A
  obtain ⟨h1, h2, h3, h4⟩ := h
  simp only at h1 h2 h3 h4 h32 hr hz
  have L : ∀ (nf b : Nat) (μ1 : TMem), 3 - b < nf → b ≤ 3 → WI μ k0 c (3 * n + b) μ1 → wpl_X2_addState_2 k0 Q nf (nI b) μ1 := by
    intro nf
    induction nf with
    | zero => intro b μ1 hk; exact absurd hk (Nat.not_lt_zero _)
    | succ nf ih =>
      intro b μ1 hk hb hw
      have e0 : μ1 k0 = μ k0 := hw.2.2 k0 (by omega)
      refine ⟨fun q9 => ?_, fun q9 => ?_⟩
      · rw [show (3 : Int32) = nI 3 from rfl, nI_leI (by omega) (by omega)] at q9
        rw [e0, h1, nI_1]
        refine hQ _ ⟨by simp [tms_ix], by simp [tms_ix, e0, h2], by simp [tms_ix, e0, h3], fun j hj => ?_⟩ (fun j a b => by rw [tms_ne a, hw.2.2 j b])
        rw [tms_ne (by omega)]
        have hj' : j < 3 * (n + 1) := hj
        exact hw.1 j (by omega)
      rw [show (3 : Int32) = nI 3 from rfl, nI_leI (by omega) (by omega)] at q9
      rw [e0, h1]
      refine e_putN (by omega) ?_
      rw [nI_1, ← hz (3 * n + b) (by omega)]
      exact ih (b + 1) _ (by omega) (by omega) hw.step
  have g := L 4 0 μ (by omega) (by omega) ⟨fun j hj => h4 j (by omega), fun _ _ => rfl, fun _ _ => rfl⟩
  rw [nI_0] at g
  exact ⟨_, g⟩
/-- a machine begun anew -/
def aC (n : Nat) : AM := (n, 1, 0, fun _ => 0)
theorem e_clearA {n : Nat} {Q : TMem → Prop} (hk0 : kd k0 = 2) (h32 : n ≤ 32) (hr : 3 * n ≤ tl (k0 + 1)) (hQ : ∀ μ9, HM μ9 k0 (aC n) → FK k0 μ μ9 → Q μ9) : wp_X2_clear k0 μ (nI n) Q := by
  have q0 := kd2 hk0
  have L : ∀ (nf a : Nat) (μ1 : TMem), n - a < nf → a ≤ n → HM μ1 k0 (a, μ1 k0 3, 0, fun _ => 0) → FK k0 μ μ1 → wpl_X2_clear_12 k0 (nI n) Q nf (nI a) μ1 := by
    intro nf
    induction nf with
    | zero => intro a μ1 hk; exact absurd hk (Nat.not_lt_zero _)
    | succ nf ih =>
      intro a μ1 hk ha hM hF
      refine ⟨fun q9 => ?_, fun q9 => ?_⟩
      · rw [nI_leI (by omega) (by omega)] at q9
        have e : a = n := by omega
        subst e
        obtain ⟨m1, m2, m3, m4⟩ := hM
        refine hQ _ ⟨by simp [tms_ix, m1, aC], by simp [tms_ix, aC], by simp [tms_ix, m3, aC], fun j hj => by rw [tms_ne (by omega)]; exact m4 j hj⟩ (fun j x y => by rw [tms_ne x]; exact hF j x y)
      rw [nI_leI (by omega) (by omega)] at q9
      refine e_addState (A := (a, μ1 k0 3, 0, fun _ => 0)) hk0 hM (show a < 32 by omega) (show 3 * a + 3 ≤ _ by omega) (fun _ _ => rfl) (fun μ9 h9 f9 => ?_)
      rw [nI_1]
      have e3 : μ9 k0 3 = μ1 k0 3 := h9.2.1
      refine ih (a + 1) μ9 (by omega) (by omega) ?_ (fun j x y => (f9 j x y).trans (hF j x y))
      rw [e3]
      exact h9
  have g := L (n + 1) 0 (tms (tms μ k0 1 (0 : Int32)) k0 2 (0 : Int32)) (by omega) (Nat.zero_le _) ⟨by simp [tms_ix, nI_0], rfl, by simp [tms_ix], fun j hj => absurd hj (Nat.not_lt_zero _)⟩ (fun j x y => by rw [tms_ne x, tms_ne x])
  rw [nI_0] at g
  exact ⟨_, g⟩
/-- a set without a state, those behind it one less -/
def cu (x : Int32) (g : Nat) : Int32 := (x &&& (((1 : Int32) <<< (nI g &&& 31)) - (1 : Int32))) ||| ((x >>> ((nI g + (1 : Int32)) &&& 31)) <<< (nI g &&& 31))
def aD (A : AM) (s : Nat) : AM := (A.1 - 1, cu A.2.1 s, cu A.2.2.1 s, fun j => if j < 3 * (A.1 - 1) then cu (A.2.2.2 (if j < 3 * s then j else j + 3)) s else 0)
theorem e_removeState {A : AM} {s : Nat} {Q : TMem → Prop} (hk0 : kd k0 = 2) (h : HM μ k0 A) (hs : s < A.1) (h32 : A.1 ≤ 32) (hr : 3 * A.1 ≤ tl (k0 + 1)) (hQ : ∀ μ9, HM μ9 k0 (aD A s) → FK k0 μ μ9 → Q μ9) : wp_X2_removeState k0 μ (nI s) Q := by
  have q0 := kd2 hk0
  obtain ⟨n, st, go, c⟩ := A
  obtain ⟨h1, h2, h3, h4⟩ := h
  simp only at h1 h2 h3 h4 h32 hr hs
  have fin : ∀ μ1, WI μ k0 (fun j => cu (c (if j < 3 * s then j else j + 3)) s) (3 * (n - 1)) μ1 → wp_X2_closeUp (μ1 k0 3) (nI s) (fun (r25 : Int32) => wp_X2_closeUp ((tms μ1 k0 3 r25) k0 2) (nI s) (fun (r26 : Int32) => Q (tms (tms (tms μ1 k0 3 r25) k0 2 r26) k0 1 (((tms (tms μ1 k0 3 r25) k0 2 r26) k0 1) - (1 : Int32))))) := fun μ1 hw => by
    have e0 : μ1 k0 = μ k0 := hw.2.2 k0 (by omega)
    refine hQ _ ⟨?_, ?_, ?_, fun j hj => ?_⟩ (fun j a b => by rw [tms_ne a, tms_ne a, tms_ne a, hw.2.2 j b])
    · have e : nI n - (1 : Int32) = nI (n - 1) := by rw [show (1 : Int32) = nI 1 from rfl, s_sub (by omega) (by omega)]
      simp [tms_ix, e0, h1, e, aD]
    · simp [tms_ix, e0, h2, aD, cu]
    · simp [tms_ix, e0, h3, aD, cu]
    · have hj' : j < 3 * (n - 1) := hj
      rw [tms_ne (by omega), tms_ne (by omega), tms_ne (by omega), hw.1 j hj']
      show _ = if j < 3 * (n - 1) then _ else _
      rw [if_pos hj']
  have L2 : ∀ (a : Nat) (K : TMem → Prop), a < n - 1 → (∀ μ9, WI μ k0 (fun j => cu (c (if j < 3 * s then j else j + 3)) s) (3 * a + 3) μ9 → K μ9) → ∀ (nf b : Nat) (μ1 : TMem), 3 - b < nf → b ≤ 3 → WI μ k0 (fun j => cu (c (if j < 3 * s then j else j + 3)) s) (3 * a + b) μ1 → wpl_X2_removeState_28 k0 (nI (if a < s then a else a + 1)) (nI a) (nI s) K nf (nI b) μ1 := by
    intro a K ha hK nf
    induction nf with
    | zero => intro b μ1 hk; exact absurd hk (Nat.not_lt_zero _)
    | succ nf ih =>
      intro b μ1 hk hb hw
      refine ⟨fun q9 => ?_, fun q9 => ?_⟩
      · rw [show (3 : Int32) = nI 3 from rfl, nI_leI (by omega) (by omega)] at q9
        rw [show 3 * a + b = 3 * a + 3 by omega] at hw
        exact hK μ1 hw
      rw [show (3 : Int32) = nI 3 from rfl, nI_leI (by omega) (by omega)] at q9
      have hkp : 3 * (if a < s then a else a + 1) + b = if 3 * a + b < 3 * s then 3 * a + b else 3 * a + b + 3 := by
        by_cases e : a < s
        · rw [if_pos e, if_pos (by omega)]
        · rw [if_neg e, if_neg (by omega)]
          omega
      have hlt : 3 * (if a < s then a else a + 1) + b < 3 * n := by
        by_cases e : a < s
        · rw [if_pos e]; omega
        · rw [if_neg e]; omega
      have hge : 3 * a + b ≤ 3 * (if a < s then a else a + 1) + b := by
        by_cases e : a < s
        · rw [if_pos e]; omega
        · rw [if_neg e]; omega
      refine e_atN (by omega) ?_
      rw [hw.2.1 _ hge, h4 _ hlt, hkp]
      refine e_putN (by omega) ?_
      rw [nI_1]
      exact ih (b + 1) _ (by omega) (by omega) hw.step
  have L1 : ∀ (nf a : Nat) (μ1 : TMem), n - 1 - a < nf → a ≤ n - 1 → WI μ k0 (fun j => cu (c (if j < 3 * s then j else j + 3)) s) (3 * a) μ1 → wpl_X2_removeState_2 k0 (nI s) (fun (μ24 : TMem) => wp_X2_closeUp (μ24 k0 3) (nI s) (fun (r25 : Int32) => wp_X2_closeUp ((tms μ24 k0 3 r25) k0 2) (nI s) (fun (r26 : Int32) => Q (tms (tms (tms μ24 k0 3 r25) k0 2 r26) k0 1 (((tms (tms μ24 k0 3 r25) k0 2 r26) k0 1) - (1 : Int32)))))) nf (nI a) μ1 := by
    intro nf
    induction nf with
    | zero => intro a μ1 hk; exact absurd hk (Nat.not_lt_zero _)
    | succ nf ih =>
      intro a μ1 hk ha hw
      have hz : μ1 k0 1 - (1 : Int32) = nI (n - 1) := by rw [hw.2.2 k0 (by omega), h1, show (1 : Int32) = nI 1 from rfl, s_sub (by omega) (by omega)]
      refine ⟨fun q9 => ?_, fun q9 => ?_⟩
      · rw [hz, nI_leI (by omega) (by omega)] at q9
        rw [show a = n - 1 by omega] at hw
        exact fin μ1 hw
      rw [hz, nI_leI (by omega) (by omega)] at q9
      intro J hJ
      have g := L2 a (fun μ9 => wpl_X2_removeState_2 k0 (nI s) (fun (μ24 : TMem) => wp_X2_closeUp (μ24 k0 3) (nI s) (fun (r25 : Int32) => wp_X2_closeUp ((tms μ24 k0 3 r25) k0 2) (nI s) (fun (r26 : Int32) => Q (tms (tms (tms μ24 k0 3 r25) k0 2 r26) k0 1 (((tms (tms μ24 k0 3 r25) k0 2 r26) k0 1) - (1 : Int32)))))) nf (nI a + (1 : Int32)) μ9) (by omega) (fun μ9 h9 => by rw [nI_1]; exact ih (a + 1) μ9 (by omega) (by omega) h9) 4 0 μ1 (by omega) (by omega) hw
      rw [nI_0] at g
      refine ⟨fun z => ?_, fun z => ?_⟩
      · rw [nI_leI (by omega) (by omega)] at z
        rw [if_neg (by omega)] at g
        rw [nI_1] at g ⊢
        exact hJ _ ⟨_, by rw [nI_1]; exact g⟩
      · rw [nI_leI (by omega) (by omega)] at z
        rw [if_pos (by omega)] at g
        exact hJ _ ⟨_, g⟩
  have g := L1 (n + 1) 0 μ (by omega) (Nat.zero_le _) WI.start
  rw [nI_0] at g
  exact ⟨_, g⟩
end SMB
end
/-! part 9sa9.meet -/
section
section SMT
variable {μ μ0 : TMem} {k1 k2 : Nat} {D1 D2 : DF}
theorem e_isIn {x : Int32} {i : Nat} {Q : Int32 → Prop} (hi : i < 32) (hQ : Q (bi ((nn x).testBit i))) : wp_X9_isIn x (nI i) Q := by
  refine ⟨fun z => ?_, fun z => ?_⟩
  · rw [s_isIn hi] at z
    rw [z] at hQ
    exact hQ
  · rw [s_isIn hi] at z
    rw [show (nn x).testBit i = true by simpa using z] at hQ
    exact hQ
/-- what two flags make: 0 either, 1 both, 2 the first alone, 3 just one -/
def opW (w : Nat) (x y : Bool) : Bool := if w = 0 then x || y else if w = 1 then x && y else if w = 2 then x && !y else x != y
theorem e_isGoal4 {i w x y : Nat} {g1 g2 : Bool} {Q : Int32 → Prop} (hi : i < 200) (hw : w ≤ 3) (hx : x < 32) (hy : y < 32) (h37 : μ 37 i = nI x) (h39 : μ 39 i = nI y) (e1 : (nn (μ 35 6)).testBit x = g1) (e2 : (nn (μ 35 7)).testBit y = g2) (hQ : Q (bi (opW w g1 g2))) : wp_X4_isGoal μ (nI i) (nI w) Q := by
  refine e_row (k := 36) (show i < tl 37 from hi) ?_
  show wp_X9_isIn (μ 35 6) (μ 37 i) _
  rw [h37]
  refine e_isIn hx ?_
  rw [e1]
  refine e_row (k := 38) (show i < tl 39 from hi) ?_
  show wp_X9_isIn (μ 35 7) (μ 39 i) _
  rw [h39]
  refine e_isIn hy ?_
  rw [e2]
  have w0 : nI w = (0 : Int32) ↔ w = 0 := by rw [← nI_0]; exact nI_eq (by omega) (by omega)
  have w1 : nI w = (1 : Int32) ↔ w = 1 := nI_eq (b := 1) (by omega) (by omega)
  have w2 : nI w = (2 : Int32) ↔ w = 2 := nI_eq (b := 2) (by omega) (by omega)
  refine ⟨fun q => ?_, fun q => ⟨fun q1 => ?_, fun q1 => ⟨fun q2 => ?_, fun q2 => ?_⟩⟩⟩
  · rw [w0] at q
    subst q
    cases g1 <;> cases g2 <;> exact ⟨fun z => by first | exact hQ | exact absurd rfl z, fun z => by first | exact ⟨fun z2 => by first | exact hQ | exact absurd z2 (by decide), fun z2 => by first | exact hQ | exact absurd rfl z2⟩ | exact absurd z (by decide)⟩
  · rw [w1] at q1
    subst q1
    cases g1 <;> cases g2 <;> exact ⟨fun z => by first | exact hQ | exact absurd z (by decide), fun z => by first | exact absurd rfl z | exact ⟨fun z2 => by first | exact hQ | exact absurd z2 (by decide), fun z2 => by first | exact hQ | exact absurd rfl z2⟩⟩
  · rw [w2] at q2
    subst q2
    cases g1 <;> cases g2 <;> exact ⟨fun z => by first | exact hQ | exact absurd z (by decide), fun z => by first | exact absurd rfl z | exact ⟨fun z2 => by first | exact hQ | exact absurd rfl z2, fun z2 => by first | exact hQ | exact absurd z2 (by decide)⟩⟩
  · rw [w0] at q
    rw [w1] at q1
    rw [w2] at q2
    have e : opW w g1 g2 = (g1 != g2) := by rw [opW, if_neg q, if_neg q1, if_neg q2]
    rw [e] at hQ
    cases g1 <;> cases g2 <;> exact ⟨fun z => by first | exact hQ | exact absurd z (by decide), fun z => by first | exact hQ | exact absurd rfl z⟩
theorem e_add {c x y : Nat} {a3 a4 : Int32} {g1 g2 : Bool} {Q : TMem → Prop} (hc : μ 35 8 = nI c) (hc2 : c < 200) (hx : x < 32) (hy : y < 32) (e1 : (nn (μ 35 6)).testBit x = g1) (e2 : (nn (μ 35 7)).testBit y = g2) (hQ : ∀ μ9 : TMem, μ9 35 8 = nI (c + 1) → μ9 35 6 = μ 35 6 → μ9 35 7 = μ 35 7 → μ9 35 9 = (if μ 35 9 = (-1 : Int32) ∧ g1 ≠ g2 then nI c else μ 35 9) → μ9 37 = upd (μ 37) c (nI x) → μ9 39 = upd (μ 39) c (nI y) → μ9 43 = upd (μ 43) c a4 → μ9 47 = upd (μ 47) (x * 32 + y) (nI c) → (∀ k, k ≠ 35 → k ≠ 37 → k ≠ 39 → k ≠ 41 → k ≠ 43 → k ≠ 47 → μ9 k = μ k) → Q μ9) : wp_X4_add μ (nI x) (nI y) a3 a4 Q := by
  unfold wp_X4_add
  rw [hc]
  refine e_rowput (k := 36) (show c < tl 37 from hc2) ?_
  rw [show (tms μ (36 + 1) c (nI x)) 35 8 = nI c by rw [tms_ne (by decide)]; exact hc]
  refine e_rowput (k := 38) (show c < tl 39 from hc2) ?_
  rw [show (tms (tms μ (36 + 1) c (nI x)) (38 + 1) c (nI y)) 35 8 = nI c by rw [tms_ne (by decide), tms_ne (by decide)]; exact hc]
  refine e_rowput (k := 40) (show c < tl 41 from hc2) ?_
  rw [show (tms (tms (tms μ (36 + 1) c (nI x)) (38 + 1) c (nI y)) (40 + 1) c a3) 35 8 = nI c by rw [tms_ne (by decide), tms_ne (by decide), tms_ne (by decide)]; exact hc]
  refine e_rowput (k := 42) (show c < tl 43 from hc2) ?_
  rw [show (tms (tms (tms (tms μ (36 + 1) c (nI x)) (38 + 1) c (nI y)) (40 + 1) c a3) (42 + 1) c a4) 35 8 = nI c by rw [tms_ne (by decide), tms_ne (by decide), tms_ne (by decide), tms_ne (by decide)]; exact hc]
  rw [show (32 : Int32) = nI 32 from rfl, s_mul, nI_add]
  refine e_rowput (k := 46) (show x * 32 + y < tl 47 by rw [show tl 47 = 1024 from rfl]; omega) ?_
  show (¬ (tms (tms (tms (tms (tms μ 37 c (nI x)) 39 c (nI y)) 41 c a3) 43 c a4) 47 (x * 32 + y) (nI c)) 35 9 = (-1 : Int32) → Q (tms (tms (tms (tms (tms (tms μ 37 c (nI x)) 39 c (nI y)) 41 c a3) 43 c a4) 47 (x * 32 + y) (nI c)) 35 8 (((tms (tms (tms (tms (tms μ 37 c (nI x)) 39 c (nI y)) 41 c a3) 43 c a4) 47 (x * 32 + y) (nI c)) 35 8) + (1 : Int32)))) ∧ ((tms (tms (tms (tms (tms μ 37 c (nI x)) 39 c (nI y)) 41 c a3) 43 c a4) 47 (x * 32 + y) (nI c)) 35 9 = (-1 : Int32) → wp_X4_isGoal (tms (tms (tms (tms (tms μ 37 c (nI x)) 39 c (nI y)) 41 c a3) 43 c a4) 47 (x * 32 + y) (nI c)) ((tms (tms (tms (tms (tms μ 37 c (nI x)) 39 c (nI y)) 41 c a3) 43 c a4) 47 (x * 32 + y) (nI c)) 35 8) (nI 3) _)
  generalize hM : (tms (tms (tms (tms (tms μ 37 c (nI x)) 39 c (nI y)) 41 c a3) 43 c a4) 47 (x * 32 + y) (nI c)) = M
  have m35 : M 35 = μ 35 := by rw [← hM, tms_ne (by decide), tms_ne (by decide), tms_ne (by decide), tms_ne (by decide), tms_ne (by decide)]
  have m37 : M 37 = upd (μ 37) c (nI x) := by rw [← hM, tms_ne (by decide), tms_ne (by decide), tms_ne (by decide), tms_ne (by decide), tms_eq]
  have m39 : M 39 = upd (μ 39) c (nI y) := by rw [← hM, tms_ne (by decide), tms_ne (by decide), tms_ne (by decide), tms_eq, tms_ne (by decide)]
  have m43 : M 43 = upd (μ 43) c a4 := by rw [← hM, tms_ne (by decide), tms_eq, tms_ne (by decide), tms_ne (by decide), tms_ne (by decide)]
  have m47 : M 47 = upd (μ 47) (x * 32 + y) (nI c) := by rw [← hM, tms_eq, tms_ne (by decide), tms_ne (by decide), tms_ne (by decide), tms_ne (by decide)]
  have mf : ∀ k, k ≠ 37 → k ≠ 39 → k ≠ 41 → k ≠ 43 → k ≠ 47 → M k = μ k := fun k a b d e f => by rw [← hM, tms_ne f, tms_ne e, tms_ne d, tms_ne b, tms_ne a]
  have last : ∀ z : Int32, (z = if μ 35 9 = (-1 : Int32) ∧ g1 ≠ g2 then nI c else μ 35 9) → ∀ N : TMem, N 35 6 = μ 35 6 → N 35 7 = μ 35 7 → N 35 9 = z → (∀ k, k ≠ 35 → N k = M k) → Q (tms N 35 8 (nI c + (1 : Int32))) := fun z hz N n6 n7 n9 nf => by
    rw [nI_1]
    refine hQ _ (by simp [tms_ix]) (by simp [tms_ix, n6]) (by simp [tms_ix, n7]) (by simp [tms_ix, n9, hz]) ?_ ?_ ?_ ?_ (fun k a b d e f g => ?_)
    · rw [tms_ne (by decide), nf _ (by decide), m37]
    · rw [tms_ne (by decide), nf _ (by decide), m39]
    · rw [tms_ne (by decide), nf _ (by decide), m43]
    · rw [tms_ne (by decide), nf _ (by decide), m47]
    · rw [tms_ne a, nf _ a, mf k b d e f g]
  rw [m35, hc]
  refine ⟨fun z => last _ rfl M (by rw [m35]) (by rw [m35]) (by rw [m35, if_neg (fun w => z w.1)]) (fun _ _ => rfl), fun z => ?_⟩
  refine e_isGoal4 (i := c) (w := 3) (x := x) (y := y) (g1 := g1) (g2 := g2) hc2 (by omega) hx hy (by rw [m37, upd_at]) (by rw [m39, upd_at]) (by rw [m35]; exact e1) (by rw [m35]; exact e2) ⟨fun w => ?_, fun w => ?_⟩
  · rw [bi_0] at w
    have w' : g1 = g2 := by simpa [opW] using w
    have := last _ rfl M (by rw [m35]) (by rw [m35]) (by rw [m35, if_neg (fun q => q.2 w')]) (fun _ _ => rfl)
    exact this
  · rw [bi_0] at w
    have w' : g1 ≠ g2 := by simpa [opW] using w
    have := last _ rfl (tms M 35 9 (nI c)) (by simp [tms_ix, m35]) (by simp [tms_ix, m35]) (by simp [tms_ix, z, w']) (fun k hk => by rw [tms_ne hk])
    have e8 : (tms M 35 9 (nI c)) 35 8 = nI c := by simp [tms_ix, m35, hc]
    rw [e8]
    exact this
end SMT
end
/-! part 9saa.meet2 -/
section
section SMU
variable {μ μ0 : TMem} {k1 k2 : Nat} {D1 D2 : DF}
def fM (D1 D2 : DF) : Nat → Nat → Nat := fun p s => D1.2.1 (3 * (p / 32) + s) * 32 + D2.2.1 (3 * (p % 32) + s)
def uM (D1 D2 : DF) (p : Nat) : Bool := D1.2.2 (p / 32) != D2.2.2 (p % 32)
def uW (D1 D2 : DF) (v : Int32) (p : Nat) : Bool := decide (v = 0) && uM D1 D2 p
/-- where meeting stands -/
def MTI (μ0 : TMem) (D1 D2 : DF) (lim : Nat) (u : Nat → Bool) (R : Option (List Nat × List Nat)) (L T : List Nat) (μ : TMem) : Prop :=
  EI lim (fM D1 D2) u R L T ∧ (∀ x ∈ L, x / 32 < D1.1 ∧ x % 32 < D2.1) ∧ μ 35 8 = nI L.length ∧ (∀ i, i < L.length → μ 37 i = nI (L.getD i 0 / 32) ∧ μ 39 i = nI (L.getD i 0 % 32)) ∧ (∀ p, p < 1024 → μ 47 p = if p ∈ L then nI (L.idxOf p) else (-1 : Int32)) ∧ (∀ j, j < T.length → μ 45 j = nI (T.getD j 0)) ∧ (μ 35 9 = (-1 : Int32) ↔ ∀ x ∈ L, uM D1 D2 x = false) ∧ (∀ i, i + 1 < L.length → u (L.getD i 0) = false) ∧ μ 35 6 = μ0 35 6 ∧ μ 35 7 = μ0 35 7 ∧ GB μ ∧ ∀ k, k ≠ 35 → k ≠ 37 → k ≠ 39 → k ≠ 41 → k ≠ 43 → k ≠ 45 → k ≠ 47 → μ k = μ0 k
def FME (μ μ9 : TMem) : Prop := GB μ9 ∧ ∀ k, k ≠ 35 → k ≠ 37 → k ≠ 39 → k ≠ 41 → k ≠ 43 → k ≠ 45 → k ≠ 47 → μ9 k = μ k
variable {lim : Nat} {u : Nat → Bool} {R : Option (List Nat × List Nat)}
theorem e_mbody {a b : Nat} {L T : List Nat} {KK : TMem → Prop} {Q : Int32 → TMem → Prop} (hk1 : kd k1 = 5) (hk2 : kd k2 = 5) (hP1 : HP μ0 k1 D1) (hP2 : HP μ0 k2 D2) (hg1 : ∀ i, i < 32 → (nn (μ0 35 6)).testBit i = (decide (i < D1.1) && D1.2.2 i)) (hg2 : ∀ i, i < 32 → (nn (μ0 35 7)).testBit i = (decide (i < D2.1) && D2.2.2 i)) (hlim : lim ≤ 200) (hb : b < 3) (hT : T.length = 3 * a + b) (ha : a < L.length) (hu : u (L.getD (L.length - 1) 0) = false) (hM : MTI μ0 D1 D2 lim u R L T μ)
    (hKK : ∀ (L' T' : List Nat) (μ9 : TMem), T'.length = 3 * a + (b + 1) → a < L'.length → MTI μ0 D1 D2 lim u R L' T' μ9 → KK μ9) (hQ : R = none → ∀ μ9, FME μ0 μ9 → Q 0 μ9) :
    wp_X6_at 36 μ (nI a) (fun (r18 : Int32) => wp_X7_at k1 μ r18 (nI b) (fun (r21 : Int32) => wp_X6_at 38 μ (nI a) (fun (r24 : Int32) => wp_X7_at k2 μ r24 (nI b) (fun (r27 : Int32) => wp_X6_at 46 μ ((r21 * (32 : Int32)) + r27) (fun (r30 : Int32) => (¬ r30 = (-1 : Int32) → (wp_X6_at 46 μ ((r21 * (32 : Int32)) + r27) (fun (r34 : Int32) => wp_X6_put 44 μ (((nI a) * (3 : Int32)) + (nI b)) r34 (fun (μ37 : TMem) => KK μ37)))) ∧ (r30 = (-1 : Int32) → (((μ 35 8) < (nI lim) → (wp_X4_add μ r21 r27 (nI a) (nI b) (fun (μ39 : TMem) => wp_X6_at 46 μ39 ((r21 * (32 : Int32)) + r27) (fun (r40 : Int32) => wp_X6_put 44 μ39 (((nI a) * (3 : Int32)) + (nI b)) r40 (fun (μ43 : TMem) => KK μ43))))) ∧ (¬ (μ 35 8) < (nI lim) → (Q (0 : Int32) μ))))))))) := by
  have q1 := kd5 hk1
  have q2 := kd5 hk2
  obtain ⟨h1, hr, h2, h3, h4, h5, h6, h7, h8, h9, h10, h11⟩ := hM
  have hL := h1.2.1
  have hd : ¬ (3 * L.length ≤ T.length ∨ u (L.getD (L.length - 1) 0) = true) := fun z => z.elim (fun z => by omega) (fun z => by rw [hu] at z; cases z)
  have am := hr _ (getD_mem ha)
  have p1 : HP μ k1 D1 := hP1.same (h11 _ (by omega) (by omega) (by omega) (by omega) (by omega) (by omega) (by omega)) (h11 _ (by omega) (by omega) (by omega) (by omega) (by omega) (by omega) (by omega))
  have p2 : HP μ k2 D2 := hP2.same (h11 _ (by omega) (by omega) (by omega) (by omega) (by omega) (by omega) (by omega)) (h11 _ (by omega) (by omega) (by omega) (by omega) (by omega) (by omega) (by omega))
  have d1 := p1.2.1
  have d2 := p2.2.1
  have lt1 := p1.2.2.1 (3 * (L.getD a 0 / 32) + b) (by omega)
  have lt2 := p2.2.2.1 (3 * (L.getD a 0 % 32) + b) (by omega)
  have hq : nxt (fM D1 D2) L T = D1.2.1 (3 * (L.getD a 0 / 32) + b) * 32 + D2.2.1 (3 * (L.getD a 0 % 32) + b) := by
    rw [nxt, hT, show (3 * a + b) / 3 = a by omega, show (3 * a + b) % 3 = b by omega]
    rfl
  refine e_row (k := 36) (show a < tl 37 by rw [show tl 37 = 200 from rfl]; omega) ?_
  show wp_X7_at k1 μ (μ 37 a) (nI b) _
  rw [(h3 a ha).1]
  refine e_atN (by rw [q1.2]; omega) ?_
  rw [p1.2.2.2.2.1 _ (by omega)]
  refine e_row (k := 38) (show a < tl 39 by rw [show tl 39 = 200 from rfl]; omega) ?_
  show wp_X7_at k2 μ (μ 39 a) (nI b) _
  rw [(h3 a ha).2]
  refine e_atN (by rw [q2.2]; omega) ?_
  rw [p2.2.2.2.2.1 _ (by omega), show (32 : Int32) = nI 32 from rfl, s_mul, nI_add, ← hq]
  generalize ht1 : D1.2.1 (3 * (L.getD a 0 / 32) + b) = t1 at lt1 hq
  generalize ht2 : D2.2.1 (3 * (L.getD a 0 % 32) + b) = t2 at lt2 hq
  generalize hx : nxt (fM D1 D2) L T = x at hq
  have hx1 : x / 32 = t1 := by omega
  have hx2 : x % 32 = t2 := by omega
  have hx3 : x < 1024 := by omega
  have t47 : x < tl 47 := hx3
  have pl : 3 * a + b < tl 45 := by rw [show tl 45 = 600 from rfl]; omega
  refine e_row (k := 46) t47 ?_
  have r47 := h4 x hx3
  by_cases c : x ∈ L
  · rw [if_pos c] at r47
    have il := idx_lt c
    refine ⟨fun _ => e_row (k := 46) t47 ?_, fun z => absurd (show nI (L.idxOf x) = (-1 : Int32) by rw [← r47]; exact z) (s_ne1 (by omega))⟩
    rw [s_place]
    refine e_rowput (k := 44) pl ?_
    show KK (tms μ 45 (3 * a + b) (μ 47 x))
    rw [r47, ← hT, ← hx]
    rw [← hx] at c
    refine hKK L (T ++ [L.idxOf (nxt (fM D1 D2) L T)]) _ (by rw [List.length_append]; simp; omega) ha ⟨h1.old hd c, hr, by rw [tms_ne (by decide)]; exact h2, fun i hi => by rw [tms_ne (by decide), tms_ne (by decide)]; exact h3 i hi, fun p hp => by rw [tms_ne (by decide)]; exact h4 p hp, fun j hj => ?_, by rw [tms_ne (by decide)]; exact h6, h7, by rw [tms_ne (by decide)]; exact h8, by rw [tms_ne (by decide)]; exact h9, fun i => by rw [tms_ne (by decide)]; exact h10 i, fun k z1 z2 z3 z4 z5 z6 z7 => by rw [tms_ne z6]; exact h11 k z1 z2 z3 z4 z5 z6 z7⟩
    rw [tms_eq]
    rw [List.length_append] at hj
    simp at hj
    by_cases e : j = T.length
    · rw [e, upd_at, getD_new]
    · rw [upd_ne e, getD_app (by omega)]
      exact h5 j (by omega)
  · rw [if_neg c] at r47
    refine ⟨fun z => absurd (show μ 47 x = (-1 : Int32) from r47) z, fun _ => ⟨fun z => ?_, fun z => ?_⟩⟩
    · rw [h2, nI_ltI (by omega) (by omega)] at z
      have b1 := hg1 t1 (by omega)
      have b2 := hg2 t2 (by omega)
      rw [decide_eq_true lt1, Bool.true_and] at b1
      rw [decide_eq_true lt2, Bool.true_and] at b2
      refine e_add (c := L.length) (g1 := D1.2.2 t1) (g2 := D2.2.2 t2) h2 (by omega) (by omega) (by omega) (by rw [h8]; exact b1) (by rw [h9]; exact b2) (fun M m8 m6 m7 m9 m37 m39 m43 m47 mf => ?_)
      refine e_row (k := 46) t47 ?_
      rw [s_place]
      refine e_rowput (k := 44) pl ?_
      show KK (tms M 45 (3 * a + b) (M 47 x))
      rw [← hq] at m47
      rw [m47, upd_at, ← hT]
      have hnew := h1.new hd (by rw [hx]; exact c) (by omega)
      rw [hx] at hnew
      have um : uM D1 D2 (x) = (D1.2.2 t1 != D2.2.2 t2) := by rw [uM, hx1, hx2]
      refine hKK (L ++ [x]) (T ++ [L.length]) _ (by rw [List.length_append]; simp; omega) (by rw [List.length_append]; simp; omega) ⟨hnew, fun y hy => ?_, by rw [tms_ne (by decide), m8, List.length_append]; rfl, fun i hi => ?_, fun p hp => ?_, fun j hj => ?_, ?_, fun i hi => ?_, by rw [tms_ne (by decide), m6]; exact h8, by rw [tms_ne (by decide), m7]; exact h9, fun i => ?_, fun k z1 z2 z3 z4 z5 z6 z7 => by rw [tms_ne z6, mf k z1 z2 z3 z4 z5 z7]; exact h11 k z1 z2 z3 z4 z5 z6 z7⟩
      · rw [List.mem_append] at hy
        rcases hy with hy | hy
        · exact hr y hy
        · simp at hy
          rw [hy, hx1, hx2]
          exact ⟨lt1, lt2⟩
      · rw [tms_ne (by decide), tms_ne (by decide), m37, m39]
        rw [List.length_append] at hi
        simp at hi
        by_cases e : i = L.length
        · rw [e, upd_at, upd_at, getD_new, hx1, hx2]
          exact ⟨rfl, rfl⟩
        · rw [upd_ne e, upd_ne e, getD_app (by omega)]
          exact h3 i (by omega)
      · rw [tms_ne (by decide), m47]
        by_cases e : p = x
        · rw [e, upd_at, if_pos (by simp), idx_app_new c]
        · rw [upd_ne e, h4 p hp]
          by_cases w : p ∈ L
          · rw [if_pos w, if_pos (List.mem_append_left _ w), idx_app w]
          · rw [if_neg w, if_neg (fun q => (List.mem_append.mp q).elim w (fun q => e (by simpa using q)))]
      · rw [tms_eq]
        rw [List.length_append] at hj
        simp at hj
        by_cases e : j = T.length
        · rw [e, upd_at, getD_new]
        · rw [upd_ne e, getD_app (by omega), mf 45 (by decide) (by decide) (by decide) (by decide) (by decide) (by decide)]
          exact h5 j (by omega)
      · rw [tms_ne (by decide), m9]
        by_cases w : D1.2.2 t1 = D2.2.2 t2
        · rw [if_neg (fun q => q.2 w), h6]
          refine ⟨fun q y hy => ?_, fun q y hy => q y (List.mem_append_left _ hy)⟩
          rw [List.mem_append] at hy
          rcases hy with hy | hy
          · exact q y hy
          · simp at hy
            rw [hy, um, w]
            simp
        · refine ⟨fun q => ?_, fun q => ?_⟩
          · exfalso
            by_cases w2 : μ 35 9 = (-1 : Int32)
            · rw [if_pos ⟨w2, w⟩] at q
              exact s_ne1 (by omega) q
            · rw [if_neg (fun q => w2 q.1)] at q
              exact w2 q
          · have := q (x) (by simp)
            rw [um] at this
            exact absurd (by simpa using this) w
      · rw [List.length_append] at hi
        simp at hi
        by_cases e : i + 1 = L.length
        · rw [getD_app (by omega), show i = L.length - 1 by omega]
          exact hu
        · rw [getD_app (by omega)]
          exact h7 i (by omega)
      · rw [tms_ne (by decide), m43]
        by_cases e : i = L.length
        · rw [e, upd_at]
          exact ⟨by rw [nI_toInt (by omega)]; omega, by rw [nI_toInt (by omega)]; omega⟩
        · rw [upd_ne e]
          exact h10 i
    · rw [h2, nI_ltI (by omega) (by omega)] at z
      exact hQ (h1.full hd (by rw [hx]; exact c) (by omega)) μ ⟨h10, h11⟩
theorem e_meet63 {a : Nat} {v14 : Int32} {K : TMem → Prop} {Q : Int32 → TMem → Prop} (hk1 : kd k1 = 5) (hk2 : kd k2 = 5) (hP1 : HP μ0 k1 D1) (hP2 : HP μ0 k2 D2) (hg1 : ∀ i, i < 32 → (nn (μ0 35 6)).testBit i = (decide (i < D1.1) && D1.2.2 i)) (hg2 : ∀ i, i < 32 → (nn (μ0 35 7)).testBit i = (decide (i < D2.1) && D2.2.2 i)) (hlim : lim ≤ 200)
    (hK : ∀ (L T : List Nat) (μ9 : TMem), T.length = 3 * (a + 1) → a < L.length → MTI μ0 D1 D2 lim (uW D1 D2 v14) R L T μ9 → K μ9) (hQ1 : ∀ (L T : List Nat) (μ9 : TMem), R = some (L, T) → MTI μ0 D1 D2 lim (uW D1 D2 v14) R L T μ9 → Q 1 μ9) (hQ : R = none → ∀ μ9, FME μ0 μ9 → Q 0 μ9) :
    ∀ (nf b : Nat) (L T : List Nat) (μ15 : TMem), 3 - b < nf → b ≤ 3 → T.length = 3 * a + b → a < L.length → MTI μ0 D1 D2 lim (uW D1 D2 v14) R L T μ15 → wpl_X4_meet_63 k1 k2 (nI a) (nI lim) v14 K Q nf (nI b) μ15 := by
  intro nf
  induction nf with
  | zero => intro b L T μ15 hk; exact absurd hk (Nat.not_lt_zero _)
  | succ nf ih =>
    intro b L T μ15 hnf hb hT ha hM
    have hM' := hM
    obtain ⟨h1, hr, h2, h3, h4, h5, h6, h7, h8, h9, h10, h11⟩ := hM'
    have lm : L.getD (L.length - 1) 0 ∈ L := getD_mem (by omega)
    refine ⟨fun q9 => ?_, fun q9 => ?_⟩
    · rw [show (3 : Int32) = nI 3 from rfl, nI_leI (by omega) (by omega)] at q9
      exact hK L T μ15 (by omega) ha hM
    rw [show (3 : Int32) = nI 3 from rfl, nI_leI (by omega) (by omega)] at q9
    have go : ∀ (L' T' : List Nat) (μ9 : TMem), T'.length = 3 * a + (b + 1) → a < L'.length → MTI μ0 D1 D2 lim (uW D1 D2 v14) R L' T' μ9 → wpl_X4_meet_63 k1 k2 (nI a) (nI lim) v14 K Q nf (nI b + (1 : Int32)) μ9 := fun L' T' μ9 z1 z2 z3 => by
      rw [nI_1]
      exact ih (b + 1) L' T' μ9 (by omega) (by omega) z1 z2 z3
    refine ⟨fun c => e_mbody hk1 hk2 hP1 hP2 hg1 hg2 hlim (by omega) hT ha ?_ hM go hQ, fun c => ⟨fun c2 => e_mbody hk1 hk2 hP1 hP2 hg1 hg2 hlim (by omega) hT ha ?_ hM go hQ, fun c2 => ?_⟩⟩
    · rw [uW, h6.mp c _ lm]
      simp
    · rw [uW, decide_eq_false c2]
      rfl
    · refine hQ1 L T μ15 (h1.done (Or.inr ?_)) hM
      refine Classical.byContradiction (fun w => c (h6.mpr (fun x hx => ?_)))
      obtain ⟨i, hi, rfl⟩ : ∃ i, i < L.length ∧ L.getD i 0 = x := ⟨L.idxOf x, idx_lt hx, getD_idx hx⟩
      by_cases e : i + 1 = L.length
      · rw [show L.length - 1 = i by omega] at w
        rw [uW, decide_eq_true c2, Bool.true_and] at w
        simpa using w
      · have := h7 i (by omega)
        rw [uW, decide_eq_true c2, Bool.true_and] at this
        exact this
theorem e_meet45 {v14 : Int32} {Q : Int32 → TMem → Prop} (hk1 : kd k1 = 5) (hk2 : kd k2 = 5) (hP1 : HP μ0 k1 D1) (hP2 : HP μ0 k2 D2) (hg1 : ∀ i, i < 32 → (nn (μ0 35 6)).testBit i = (decide (i < D1.1) && D1.2.2 i)) (hg2 : ∀ i, i < 32 → (nn (μ0 35 7)).testBit i = (decide (i < D2.1) && D2.2.2 i)) (hlim : lim ≤ 200)
    (hQ1 : ∀ (L T : List Nat) (μ9 : TMem), R = some (L, T) → MTI μ0 D1 D2 lim (uW D1 D2 v14) R L T μ9 → Q 1 μ9) (hQ : R = none → ∀ μ9, FME μ0 μ9 → Q 0 μ9) :
    ∀ (nf a : Nat) (L T : List Nat) (μ7 : TMem), 200 - a < nf → a ≤ L.length → T.length = 3 * a → MTI μ0 D1 D2 lim (uW D1 D2 v14) R L T μ7 → wpl_X4_meet_45 k1 k2 (nI lim) v14 Q nf (nI a) μ7 := by
  intro nf
  induction nf with
  | zero => intro a L T μ7 hk; exact absurd hk (Nat.not_lt_zero _)
  | succ nf ih =>
    intro a L T μ7 hnf ha hT hM
    have h1 := hM.1
    have hL := h1.2.1
    have h2 := hM.2.2.1
    have fin : L.length ≤ a → Q 1 μ7 := fun c => hQ1 L T μ7 (h1.done (Or.inl (by omega))) hM
    refine ⟨fun c => ?_, fun c => ⟨fun c2 => ?_, fun c2 => ?_⟩⟩
    · rw [nI_leI (by omega) (by omega)] at c
      exact fin (by omega)
    · rw [h2, nI_leI (by omega) (by omega)] at c2
      exact fin c2
    rw [h2, nI_leI (by omega) (by omega)] at c2
    have g := e_meet63 (a := a) (v14 := v14) (K := fun (μ72 : TMem) => wpl_X4_meet_45 k1 k2 (nI lim) v14 Q nf (nI a + (1 : Int32)) μ72) (Q := Q) hk1 hk2 hP1 hP2 hg1 hg2 hlim (fun L' T' μ9 z1 z2 z3 => by rw [nI_1]; exact ih (a + 1) L' T' μ9 (by omega) (by omega) z1 z3) hQ1 hQ 4 0 L T μ7 (by omega) (by omega) hT (by omega) hM
    rw [nI_0] at g
    exact ⟨_, g⟩
/-- what is met, at its end -/
def MR9 (D1 D2 : DF) (lim : Nat) (v : Int32) : Option (List Nat × List Nat) := EX lim (fM D1 D2) (uW D1 D2 v) 0
def ME9 (D1 D2 : DF) (lim : Nat) (L T : List Nat) (μ μ9 : TMem) : Prop := L.length ≤ lim ∧ 1 ≤ L.length ∧ (∀ x ∈ L, x / 32 < D1.1 ∧ x % 32 < D2.1) ∧ μ9 35 8 = nI L.length ∧ (∀ i, i < L.length → μ9 37 i = nI (L.getD i 0 / 32) ∧ μ9 39 i = nI (L.getD i 0 % 32)) ∧ (∀ j, j < T.length → μ9 45 j = nI (T.getD j 0) ∧ T.getD j 0 < L.length) ∧ (μ9 35 9 = (-1 : Int32) ↔ ∀ x ∈ L, uM D1 D2 x = false) ∧ (∀ i, i < 32 → (nn (μ9 35 6)).testBit i = (decide (i < D1.1) && D1.2.2 i)) ∧ (∀ i, i < 32 → (nn (μ9 35 7)).testBit i = (decide (i < D2.1) && D2.2.2 i)) ∧ FME μ μ9
theorem e_meet {v14 : Int32} {Q : Int32 → TMem → Prop} (hk1 : kd k1 = 5) (hk2 : kd k2 = 5) (hP1 : HP μ k1 D1) (hP2 : HP μ k2 D2) (hlim : lim ≤ 200) (hl1 : 1 ≤ lim) (hG : GB μ) (hQ1 : ∀ (L T : List Nat) (μ9 : TMem), MR9 D1 D2 lim v14 = some (L, T) → ME9 D1 D2 lim L T μ μ9 → Q 1 μ9) (hQ : MR9 D1 D2 lim v14 = none → ∀ μ9, FME μ μ9 → Q 0 μ9) : wp_X4_meet k1 k2 μ (nI lim) v14 Q := by
  have q1 := kd5 hk1
  have q2 := kd5 hk2
  refine e_fill (k := 46) (fun μ1 hf hr => ?_)
  have r35 : μ1 35 = μ 35 := hr 35 (by decide)
  have m0 : ∀ k, k ≠ 47 → μ1 k = μ k := hr
  have p1 : μ1 k1 = μ k1 := m0 k1 (by omega)
  have p2 : μ1 k2 = μ k2 := m0 k2 (by omega)
  generalize hMs : (tms (tms (tms (tms μ1 35 6 (μ1 k1 2)) 35 7 ((tms μ1 35 6 (μ1 k1 2)) k2 2)) 35 8 (0 : Int32)) 35 9 (-1 : Int32)) = Ms
  have e6 : Ms 35 6 = μ k1 2 := by rw [← hMs]; simp [tms_ix, p1]
  have e7 : Ms 35 7 = μ k2 2 := by rw [← hMs]; simp [tms_ix, p2]
  have e8 : Ms 35 8 = nI 0 := by rw [← hMs]; simp [tms_ix, nI_0]
  have e9 : Ms 35 9 = -1 := by rw [← hMs]; simp [tms_ix]
  have ef : ∀ k, k ≠ 35 → Ms k = μ1 k := fun k hk => by rw [← hMs, tms_ne hk, tms_ne hk, tms_ne hk, tms_ne hk]
  have pM1 : HP Ms k1 D1 := hP1.same (by rw [ef _ (by omega), m0 _ (by omega)]) (by rw [ef _ (by omega), m0 _ (by omega)])
  have pM2 : HP Ms k2 D2 := hP2.same (by rw [ef _ (by omega), m0 _ (by omega)]) (by rw [ef _ (by omega), m0 _ (by omega)])
  have g1 : ∀ i, i < 32 → (nn (Ms 35 6)).testBit i = (decide (i < D1.1) && D1.2.2 i) := fun i hi => by rw [e6]; exact hP1.2.2.2.2.2 i hi
  have g2 : ∀ i, i < 32 → (nn (Ms 35 7)).testBit i = (decide (i < D2.1) && D2.2.2 i) := fun i hi => by rw [e7]; exact hP2.2.2.2.2.2 i hi
  have d1 := hP1.1
  have d2 := hP2.1
  have b1 := g1 0 (by omega)
  have b2 := g2 0 (by omega)
  rw [decide_eq_true (show 0 < D1.1 by omega), Bool.true_and] at b1
  rw [decide_eq_true (show 0 < D2.1 by omega), Bool.true_and] at b2
  show wp_X4_add _ (nI 0) (nI 0) (-1 : Int32) (-1 : Int32) _
  refine e_add (c := 0) (x := 0) (y := 0) (g1 := D1.2.2 0) (g2 := D2.2.2 0) e8 (by omega) (by omega) (by omega) b1 b2 (fun M m8 m6 m7 m9 m37 m39 m43 m47 mf => ?_)
  have um : uM D1 D2 0 = (D1.2.2 0 != D2.2.2 0) := rfl
  have big : FME μ M := ⟨fun i => by
    rw [m43]
    by_cases e : i = 0
    · rw [e, upd_at]; exact ⟨by decide, by decide⟩
    · rw [upd_ne e, ef _ (by decide), m0 _ (by decide)]; exact hG i, fun k z1 z2 z3 z4 z5 z6 z7 => by rw [mf k z1 z2 z3 z4 z5 z7, ef k z1, m0 k z7]⟩
  have g := e_meet45 (μ0 := M) (k1 := k1) (k2 := k2) (D1 := D1) (D2 := D2) (lim := lim) (R := MR9 D1 D2 lim v14) (v14 := v14) (Q := Q) hk1 hk2 (pM1.same (mf _ (by omega) (by omega) (by omega) (by omega) (by omega) (by omega)) (mf _ (by omega) (by omega) (by omega) (by omega) (by omega) (by omega))) (pM2.same (mf _ (by omega) (by omega) (by omega) (by omega) (by omega) (by omega)) (mf _ (by omega) (by omega) (by omega) (by omega) (by omega) (by omega))) (fun i hi => by rw [m6]; exact g1 i hi) (fun i hi => by rw [m7]; exact g2 i hi) hlim (fun L T μ9 hR hM => by
      obtain ⟨h1, hr, h2, h3, h4, h5, h6, h7, h8, h9, h10, h11⟩ := hM
      exact hQ1 L T μ9 hR ⟨h1.2.1, h1.2.2.1, hr, h2, h3, fun j hj => ⟨h5 j hj, (h1.2.2.2.2 j hj).1⟩, h6, fun i hi => by rw [h8, m6]; exact g1 i hi, fun i hi => by rw [h9, m7]; exact g2 i hi, h10, fun k z1 z2 z3 z4 z5 z6 z7 => by rw [h11 k z1 z2 z3 z4 z5 z6 z7]; exact big.2 k z1 z2 z3 z4 z5 z6 z7⟩) (fun hR μ9 hF => hQ hR μ9 ⟨hF.1, fun k z1 z2 z3 z4 z5 z6 z7 => by rw [hF.2 k z1 z2 z3 z4 z5 z6 z7]; exact big.2 k z1 z2 z3 z4 z5 z6 z7⟩) 201 0 [0] [] M (by omega) (Nat.zero_le _) rfl ⟨EI.start 0 hl1, fun x hx => by simp at hx; subst hx; exact ⟨by omega, by omega⟩, m8, fun i hi => ?_, fun p hp => ?_, fun j hj => absurd hj (Nat.not_lt_zero _), ?_, fun i hi => by simp at hi, rfl, rfl, big.1, fun _ _ _ _ _ _ _ _ => rfl⟩
  · rw [nI_0] at g
    exact ⟨_, g⟩
  · simp at hi
    subst hi
    rw [m37, m39, upd_at, upd_at]
    exact ⟨rfl, rfl⟩
  · rw [m47]
    by_cases e : p = 0
    · rw [e]
      rw [show (0 : Nat) * 32 + 0 = 0 from rfl, upd_at, if_pos (by simp)]
      simp
    · rw [show (0 : Nat) * 32 + 0 = 0 from rfl, upd_ne e, if_neg (by simpa using e), ef _ (by decide)]
      exact hf p hp
  · rw [m9, e9]
    by_cases w : D1.2.2 0 = D2.2.2 0
    · rw [if_neg (fun q => q.2 w)]
      refine ⟨fun _ x hx => ?_, fun _ => rfl⟩
      simp at hx
      rw [hx, um, w]
      simp
    · rw [if_pos ⟨rfl, w⟩]
      refine ⟨fun q => absurd q (s_ne1 (by omega)), fun q => ?_⟩
      have := q 0 (by simp)
      rw [um] at this
      exact absurd (by simpa using this) w
end SMU
end
/-! part 9sab.made -/
section
section SMD
variable {μ μ0 : TMem} {k1 k2 : Nat} {A B : AM} {D D1 D2 : DF}
theorem EXs_congr {lim : Nat} {f f' : Nat → Nat → Nat} {u : Nat → Bool} (h : ∀ x s, s < 3 → f x s = f' x s) : ∀ (n : Nat) (L T : List Nat), EXs lim f u n L T = EXs lim f' u n L T := by
  intro n
  induction n with
  | zero => intro L T; rfl
  | succ n ih =>
    intro L T
    have e : nxt f L T = nxt f' L T := h _ _ (Nat.mod_lt _ (by decide))
    rw [EXs, EXs, e, ih, ih]
theorem RCg_congr {c c' : Nat → Nat} {S s : Nat} : ∀ n, (∀ i, i < n → c (3 * i + s) = c' (3 * i + s)) → RCg c S s n = RCg c' S s n := by
  intro n
  induction n with
  | zero => intro _; rfl
  | succ n ih => intro h; rw [RCg, RCg, ih (fun i hi => h i (by omega)), h n (by omega)]
theorem OWD_congr {n st G : Nat} {c c' : Nat → Nat} (h : ∀ j, j < 3 * n → c j = c' j) : OWD n c st G = OWD n c' st G := by
  rw [OWD, OWD, EX, EX, EXs_congr (f := RC n c) (f' := RC n c') (fun x s hs => RCg_congr n (fun i hi => h _ (by omega)))]
/-- the one-way one of a machine -/
def OWM (A : AM) : Option DF := OWD A.1 (fun j => nn (A.2.2.2 j)) (nn A.2.1) (nn A.2.2.1)
theorem e_oneWayA {Q : Int32 → TMem → Prop} (hk1 : kd k1 = 2) (hk : kd k2 = 5) (hM : HM μ k1 A) (h32 : A.1 ≤ 32) (ht : 3 * A.1 ≤ tl (k1 + 1)) (h1 : ∀ (D : DF) (μ9 : TMem), OWM A = some D → HP μ9 k2 D → F17 k2 μ μ9 → Q 1 μ9) (h0 : OWM A = none → ∀ μ9, F17 k2 μ μ9 → Q 0 μ9) : wp_X3_makeOneWay k1 k2 μ Q := by
  obtain ⟨m1, m2, m3, m4⟩ := hM
  have e : OWD A.1 (fun j => nn (μ (k1 + 1) j)) (nn (μ k1 3)) (nn (μ k1 2)) = OWM A := by
    rw [OWM, m2, m3]
    exact OWD_congr (fun j hj => by rw [m4 j hj])
  exact e_makeOneWay hk1 hk m1 h32 ht (fun D μ9 hD => h1 D μ9 (by rw [← e]; exact hD)) (fun hD => h0 (by rw [← e]; exact hD))
/-- what asking leaves as it was -/
def ZF (μ μ9 : TMem) : Prop := (∀ k, k ≤ 9 → μ9 k = μ k) ∧ (GB μ → GB μ9)
theorem ZF.rf : ZF μ μ := ⟨fun _ _ => rfl, fun h => h⟩
theorem ZF.trans {a b c : TMem} (h1 : ZF a b) (h2 : ZF b c) : ZF a c := ⟨fun k hk => (h2.1 k hk).trans (h1.1 k hk), fun g => h2.2 (h1.2 g)⟩
theorem ZF.f17 {μ9 : TMem} (hk : kd k2 = 5) (h : F17 k2 μ μ9) : ZF μ μ9 := by
  have q := kd5 hk
  refine ⟨fun k hk => h k (by omega) (by omega) (by omega), fun g i => ?_⟩
  rw [h 43 (by omega) (by omega) (by omega)]
  exact g i
theorem ZF.fg {μ9 : TMem} (hk : kd k2 = 5) (h : FG k2 μ μ9) : ZF μ μ9 := by
  have q := kd5 hk
  refine ⟨fun k hk => h k (by omega) (by omega) (by omega) (by omega) (by omega) (by omega), fun g i => ?_⟩
  rw [h 43 (by omega) (by omega) (by omega) (by omega) (by omega) (by omega)]
  exact g i
theorem ZF.fme {μ9 : TMem} (h : FME μ μ9) : ZF μ μ9 := ⟨fun k hk => h.2 k (by omega) (by omega) (by omega) (by omega) (by omega) (by omega) (by omega), fun _ => h.1⟩
/-- the pairs of two machines -/
def PRS (A B : AM) (lim : Nat) (v : Int32) : Option (DF × DF × List Nat × List Nat) := (OWM A).bind fun D1 => (OWM B).bind fun D2 => (MR9 D1 D2 lim v).map fun p => (D1, D2, p.1, p.2)
theorem e_meetPairs {lim : Nat} {v : Int32} {Q : Int32 → TMem → Prop} (hk1 : kd k1 = 2) (hk2 : kd k2 = 2) (hA : HM μ k1 A) (hB : HM μ k2 B) (hA7 : A.1 ≤ 32) (hB7 : B.1 ≤ 32) (hta : 3 * A.1 ≤ tl (k1 + 1)) (htb : 3 * B.1 ≤ tl (k2 + 1)) (hl : lim ≤ 200) (hl1 : 1 ≤ lim) (hG : GB μ) (h1 : ∀ (D1 D2 : DF) (L T : List Nat) (μ8 μ9 : TMem), PRS A B lim v = some (D1, D2, L, T) → MR9 D1 D2 lim v = some (L, T) → ME9 D1 D2 lim L T μ8 μ9 → HP μ9 51 D1 → HP μ9 53 D2 → ZF μ μ9 → Q 1 μ9) (h0 : PRS A B lim v = none → ∀ μ9, ZF μ μ9 → Q 0 μ9) : wp_X9_meetPairs k1 k2 μ (nI lim) v Q := by
  have q1 := kd2 hk1
  have q2 := kd2 hk2
  refine e_oneWayA hk1 (k2 := 51) rfl hA hA7 hta (fun D1 μ1 e1 p1 f1 => ⟨fun z => absurd z (by decide), fun _ => ?_⟩) (fun e1 μ1 f1 => ⟨fun _ => h0 (by rw [PRS, e1]; rfl) μ1 (ZF.f17 (k2 := 51) rfl f1), fun z => absurd rfl z⟩)
  have hB1 : HM μ1 k2 B := hB.same (f1 _ (by omega) (by omega) (by omega)) (f1 _ (by omega) (by omega) (by omega))
  refine e_oneWayA hk2 (k2 := 53) rfl hB1 hB7 htb (fun D2 μ2 e2 p2 f2 => ⟨fun z => absurd z (by decide), fun _ => ?_⟩) (fun e2 μ2 f2 => ⟨fun _ => h0 (by rw [PRS, e1, e2]; rfl) μ2 ((ZF.f17 (k2 := 51) rfl f1).trans (ZF.f17 (k2 := 53) rfl f2)), fun z => absurd rfl z⟩)
  have z12 := (ZF.f17 (k2 := 51) rfl f1).trans (ZF.f17 (k2 := 53) rfl f2)
  have p1' : HP μ2 51 D1 := p1.same (f2 _ (by decide) (by decide) (by decide)) (f2 _ (by decide) (by decide) (by decide))
  refine e_meet (k1 := 51) (k2 := 53) rfl rfl p1' p2 hl hl1 (z12.2 hG) (fun L T μ9 hR hM => ⟨fun z => absurd z (by decide), fun _ => h1 D1 D2 L T μ2 μ9 (by rw [PRS, e1, e2]; show (MR9 D1 D2 lim v).map _ = _; rw [hR]; rfl) hR hM ?_ ?_ (z12.trans (ZF.fme hM.2.2.2.2.2.2.2.2.2))⟩) (fun hR μ9 hF => ⟨fun _ => h0 (by rw [PRS, e1, e2]; show (MR9 D1 D2 lim v).map _ = _; rw [hR]; rfl) μ9 (z12.trans (ZF.fme hF)), fun z => absurd rfl z⟩)
  · have hF := hM.2.2.2.2.2.2.2.2.2
    exact p1'.same (hF.2 _ (by decide) (by decide) (by decide) (by decide) (by decide) (by decide) (by decide)) (hF.2 _ (by decide) (by decide) (by decide) (by decide) (by decide) (by decide) (by decide))
  · have hF := hM.2.2.2.2.2.2.2.2.2
    exact p2.same (hF.2 _ (by decide) (by decide) (by decide) (by decide) (by decide) (by decide) (by decide)) (hF.2 _ (by decide) (by decide) (by decide) (by decide) (by decide) (by decide) (by decide))
/-- two put together -/
def DJ (D1 D2 : DF) (w : Nat) (L T : List Nat) : DF := (L.length, fun j => T.getD j 0, fun i => opW w (D1.2.2 (L.getD i 0 / 32)) (D2.2.2 (L.getD i 0 % 32)))
theorem e_becomePairs {w : Nat} {L T : List Nat} {Q : TMem → Prop} (hw : w ≤ 3) (d1 : D1.1 ≤ 32) (d2 : D2.1 ≤ 32) (hM : ME9 D1 D2 32 L T μ0 μ) (hT : T.length = 3 * L.length) (hQ : ∀ μ9, HP μ9 55 (DJ D1 D2 w L T) → FK 55 μ μ9 → Q μ9) : wp_X5_becomePairs 55 μ (nI w) Q := by
  obtain ⟨hL, hL1, hr, h8, h37, h45, h9, hg1, hg2, hF⟩ := hM
  have t56 : tl 56 = 96 := rfl
  have t45 : tl 45 = 600 := rfl
  generalize hz : L.length = z at *
  -- the inner loop: cells
  have L2 : ∀ (a : Nat) (K : TMem → Prop) (r : Int32), a < z → (∀ μ9 : TMem, μ9 55 1 = nI z → μ9 55 2 = r → (∀ j, j < 3 * a + 3 → μ9 56 j = nI (T.getD j 0)) → FK 55 μ μ9 → K μ9) → ∀ (nf b : Nat) (μ1 : TMem), 3 - b < nf → b ≤ 3 → μ1 55 1 = nI z → μ1 55 2 = r → (∀ j, j < 3 * a + b → μ1 56 j = nI (T.getD j 0)) → FK 55 μ μ1 → wpl_X5_becomePairs_44 55 (nI a) (nI w) K nf (nI b) μ1 := by
    intro a K r ha hK nf
    induction nf with
    | zero => intro b μ1 hk; exact absurd hk (Nat.not_lt_zero _)
    | succ nf ih =>
      intro b μ1 hk hb m1 m2 mc mf
      refine ⟨fun q9 => ?_, fun q9 => ?_⟩
      · rw [show (3 : Int32) = nI 3 from rfl, nI_leI (by omega) (by omega)] at q9
        exact hK μ1 m1 m2 (fun j hj => mc j (by omega)) mf
      rw [show (3 : Int32) = nI 3 from rfl, nI_leI (by omega) (by omega)] at q9
      show wp_X6_at 44 μ1 (nI a * (3 : Int32) + nI b) _
      rw [s_place]
      refine e_row (k := 44) (show 3 * a + b < tl 45 by omega) (e_putN (k := 55) (show 3 * a + b < tl 56 by omega) ?_)
      show wpl_X5_becomePairs_44 55 (nI a) (nI w) K nf (nI b + (1 : Int32)) (tms μ1 56 (3 * a + b) (μ1 45 (3 * a + b)))
      rw [nI_1]
      refine ih (b + 1) _ (by omega) (by omega) (by rw [tms_ne (by decide)]; exact m1) (by rw [tms_ne (by decide)]; exact m2) (fun j hj => ?_) (fun j x y => by rw [tms_ne y]; exact mf j x y)
      rw [tms_eq]
      by_cases e : j = 3 * a + b
      · rw [e, upd_at, mf 45 (by decide) (by decide)]
        exact (h45 _ (by omega)).1
      · rw [upd_ne e]
        exact mc j (by omega)
  have L1 : ∀ (nf a : Nat) (μ1 : TMem), z - a < nf → a ≤ z → μ1 55 1 = nI z → (∀ j, j < 3 * a → μ1 56 j = nI (T.getD j 0)) → (∀ i, i < 32 → (nn (μ1 55 2)).testBit i = (decide (i < a) && opW w (D1.2.2 (L.getD i 0 / 32)) (D2.2.2 (L.getD i 0 % 32)))) → FK 55 μ μ1 → wpl_X5_becomePairs_15 55 (nI w) Q nf (nI a) μ1 := by
    intro nf
    induction nf with
    | zero => intro a μ1 hk; exact absurd hk (Nat.not_lt_zero _)
    | succ nf ih =>
      intro a μ1 hk ha m1 mc mg mf
      refine ⟨fun q9 => ?_, fun q9 => ?_⟩
      · rw [m1, nI_leI (by omega) (by omega)] at q9
        have e : a = z := by omega
        subst e
        refine hQ μ1 ⟨by show 1 ≤ L.length; omega, by show L.length ≤ 32; omega, fun j hj => ?_, by rw [m1, ← hz]; rfl, fun j hj => mc j (by have : j < 3 * L.length := hj; omega), fun i hi => by rw [mg i hi, ← hz]; rfl⟩ mf
        have hj' : j < 3 * L.length := hj
        show T.getD j 0 < L.length
        rw [hz]
        exact (h45 j (by omega)).2
      rw [m1, nI_leI (by omega) (by omega)] at q9
      have hm : L.getD a 0 ∈ L := getD_mem (by omega)
      have hb := hr _ hm
      refine e_isGoal4 (i := a) (w := w) (x := L.getD a 0 / 32) (y := L.getD a 0 % 32) (g1 := D1.2.2 (L.getD a 0 / 32)) (g2 := D2.2.2 (L.getD a 0 % 32)) (by omega) hw (by omega) (by omega) (by rw [mf 37 (by decide) (by decide)]; exact (h37 a (by omega)).1) (by rw [mf 39 (by decide) (by decide)]; exact (h37 a (by omega)).2) ?_ ?_ ?_
      · rw [mf 35 (by decide) (by decide), hg1 _ (by omega), decide_eq_true hb.1, Bool.true_and]
      · rw [mf 35 (by decide) (by decide), hg2 _ (by omega), decide_eq_true hb.2, Bool.true_and]
      refine e_with (by omega) (fun r hr9 => ?_)
      have hbi : decide (bi (opW w (D1.2.2 (L.getD a 0 / 32)) (D2.2.2 (L.getD a 0 % 32))) ≠ 0) = opW w (D1.2.2 (L.getD a 0 / 32)) (D2.2.2 (L.getD a 0 % 32)) := by
        cases opW w (D1.2.2 (L.getD a 0 / 32)) (D2.2.2 (L.getD a 0 % 32)) <;> decide
      have g := L2 a (fun μ21 => wpl_X5_becomePairs_15 55 (nI w) Q nf (nI a + (1 : Int32)) μ21) r (by omega) (fun μ9 n1 n2 nc nf' => by
        rw [nI_1]
        refine ih (a + 1) μ9 (by omega) (by omega) n1 (fun j hj => nc j (by omega)) (fun i hi => ?_) nf'
        rw [n2, hr9 i hi, hbi]
        by_cases e : i = a
        · rw [if_pos e, e]
          simp
        · rw [if_neg e, mg i hi]
          congr 1
          exact decide_eq_decide.mpr (by omega)) 4 0 (tms μ1 55 2 r) (by omega) (by omega) (by rw [tms_eq, upd_ne (by decide)]; exact m1) (by rw [tms_eq, upd_at]) (fun j hj => by rw [tms_ne (by decide)]; exact mc j (by omega)) (fun j x y => by rw [tms_ne x]; exact mf j x y)
      rw [nI_0] at g
      exact ⟨_, g⟩
  have g := L1 (z + 1) 0 (tms (tms μ 55 1 (μ 35 8)) 55 2 (0 : Int32)) (by omega) (Nat.zero_le _) (by rw [tms_eq, upd_ne (by decide), tms_eq, upd_at]; exact h8) (fun j hj => absurd hj (Nat.not_lt_zero _)) (fun i hi => by rw [tms_eq, upd_at, nn_0]; simp) (fun j x y => by rw [tms_ne x, tms_ne x])
  rw [nI_0] at g
  exact ⟨_, g⟩
/-- two put together, and the least one of that -/
def BTH (A B : AM) (w : Nat) : Option DF := (PRS A B 32 1).map fun p => DJ p.1 p.2.1 w p.2.2.1 p.2.2.2
def BLS (A B : AM) (w : Nat) : Option DF := (BTH A B w).bind LSD
theorem MR9_len {lim : Nat} {L T : List Nat} (h1 : 1 ≤ lim) (h : MR9 D1 D2 lim 1 = some (L, T)) : T.length = 3 * L.length := by
  have e := EX.inv h1 h
  rcases e.2.2 with z | z
  · exact z.symm
  · rw [uW, decide_eq_false (by decide)] at z
    cases z
theorem e_putTogether {w : Nat} {Q : Int32 → TMem → Prop} (hk1 : kd k1 = 2) (hk2 : kd k2 = 2) (hA : HM μ k1 A) (hB : HM μ k2 B) (hA7 : A.1 ≤ 32) (hB7 : B.1 ≤ 32) (hta : 3 * A.1 ≤ tl (k1 + 1)) (htb : 3 * B.1 ≤ tl (k2 + 1)) (hw : w ≤ 3) (hG : GB μ) (h1 : ∀ (D : DF) (μ9 : TMem), BLS A B w = some D → HP μ9 57 D → ZF μ μ9 → Q 1 μ9) (h0 : BLS A B w = none → ∀ μ9, ZF μ μ9 → Q 0 μ9) : wp_X9_putTogether k1 k2 μ (nI w) Q := by
  refine e_meetPairs (lim := 32) (v := 1) hk1 hk2 hA hB hA7 hB7 hta htb (by omega) (by omega) hG (fun D1 D2 L T μ8 μ9 hP hR hM p1 p2 z => ⟨fun _ => ?_, fun q => absurd q (by decide)⟩) (fun hP μ9 z => ⟨fun q => absurd rfl q, fun _ => h0 (by rw [BLS, BTH, hP]; rfl) μ9 z⟩)
  refine e_becomePairs hw p1.2.1 p2.2.1 hM (MR9_len (by omega) hR) (fun μ4 h4 f4 => ?_)
  refine e_lessen (k1 := 55) (k2 := 57) rfl rfl (by decide) h4 (fun D' μ5 hD h5 f5 => ?_)
  refine h1 D' μ5 (by rw [BLS, BTH, hP]; exact hD) h5 (z.trans (ZF.trans ⟨fun k hk => f4 k (by omega) (by omega), fun g i => by rw [f4 43 (by decide) (by decide)]; exact g i⟩ (ZF.fg (k2 := 57) rfl f5)))
/-- the least one of a machine -/
def LSM (A : AM) : Option DF := (OWM A).bind LSD
theorem e_makeBy3 {Q : Int32 → TMem → Prop} (hk1 : kd k1 = 2) (hk : kd k2 = 5) (hM : HM μ k1 A) (h32 : A.1 ≤ 32) (ht : 3 * A.1 ≤ tl (k1 + 1)) (h1 : ∀ (D : DF) (μ9 : TMem), OWM A = some D → HP μ9 k2 D → ZF μ μ9 → Q 1 μ9) (h0 : OWM A = none → ∀ μ9, ZF μ μ9 → Q 0 μ9) : wp_X3_makeBy k1 k2 μ 3 Q :=
  ⟨fun z => absurd rfl z, fun _ => e_oneWayA hk1 hk hM h32 ht (fun D μ9 e p f => ⟨Or.inr rfl, h1 D μ9 e p (ZF.f17 hk f)⟩) (fun e μ9 f => ⟨Or.inl rfl, h0 e μ9 (ZF.f17 hk f)⟩)⟩
theorem e_makeBy0 {Q : Int32 → TMem → Prop} (hk1 : kd k1 = 2) (hk : kd k2 = 5) (h33 : k2 ≠ 33) (hM : HM μ k1 A) (h32 : A.1 ≤ 32) (ht : 3 * A.1 ≤ tl (k1 + 1)) (h1 : ∀ (D : DF) (μ9 : TMem), LSM A = some D → HP μ9 k2 D → ZF μ μ9 → Q 1 μ9) (h0 : LSM A = none → ∀ μ9, ZF μ μ9 → Q 0 μ9) : wp_X3_makeBy k1 k2 μ 0 Q := by
  refine ⟨fun _ => ⟨fun _ => ?_, fun z => absurd z (by decide)⟩, fun z => absurd z (by decide)⟩
  refine e_oneWayA (k2 := 33) hk1 rfl hM h32 ht (fun D μ3 e p f => ⟨fun _ J hJ => ⟨fun _ => ?_, fun z => absurd z (by decide)⟩, fun z => absurd z (by decide)⟩) (fun e μ9 f => ⟨fun z => absurd rfl z, fun _ => h0 (by rw [LSM, e]; rfl) μ9 (ZF.f17 (k2 := 33) rfl f)⟩)
  refine e_findByParting (k := 33) rfl p (fun μ7 hp hf => hJ μ7 (e_makeGroups (k1 := 33) rfl hk (fun q => h33 q.symm) (p.f2 hf (by decide)) hp (fun D' μ9 hD hH hF => ?_)))
  refine h1 D' μ9 (by rw [LSM, e]; exact hD) hH ((ZF.f17 (k2 := 33) rfl f).trans (ZF.trans ⟨fun k hk => hf k (by omega) (by omega), fun g i => by rw [hf 43 (by decide) (by decide)]; exact g i⟩ (ZF.fg hk hF)))
end SMD
end
/-! part 9sac.acts -/
section
section SAC
variable {μ μ9 : TMem} {S : Nat → AM} {a r k : Int32} {a1 a2 a3 a4 a5 : Int32} {Q : Int32 → TMem → Prop} {X : String → TMem → Prop}
/-- what holds of each machine -/
def AV (A : AM) : Prop := 1 ≤ A.1 ∧ A.1 ≤ 7 ∧ nn A.2.1 < 2 ^ A.1 ∧ nn A.2.2.1 < 2 ^ A.1 ∧ (∀ j, j < 3 * A.1 → nn (A.2.2.2 j) < 2 ^ A.1) ∧ ∀ j, 3 * A.1 ≤ j → A.2.2.2 j = 0
def AVs (S : Nat → AM) : Prop := ∀ m, m < 4 → AV (S m)
/-- the class's state: four machines, how many acts, refusals, knocks -/
def CSt (μ : TMem) (S : Nat → AM) (a r k : Int32) : Prop := (∀ m, m < 4 → HM μ (2 + 2 * m) (S m)) ∧ μ 0 11 = a ∧ μ 0 12 = r ∧ μ 0 13 = k ∧ GB μ
def sUp (S : Nat → AM) (m : Nat) (A : AM) : Nat → AM := fun i => if i = m then A else S i
theorem sUp_at {m : Nat} {A : AM} : sUp S m A m = A := if_pos rfl
theorem sUp_ne {m i : Nat} {A : AM} (h : i ≠ m) : sUp S m A i = S i := if_neg h
theorem AVs.up {m : Nat} {A : AM} (h : AVs S) (hA : AV A) : AVs (sUp S m A) := fun i hi => by
  by_cases e : i = m
  · rw [e, sUp_at]; exact hA
  · rw [sUp_ne e]; exact h i hi
theorem CSt.act {m : Nat} {A : AM} (h : CSt μ S a r k) (hM : HM μ9 (2 + 2 * m) A) (h0 : μ9 0 = μ 0) (hf : ∀ j, 2 ≤ j → j ≤ 9 → j ≠ 2 + 2 * m → j ≠ 2 + 2 * m + 1 → μ9 j = μ j) (hG : GB μ → GB μ9) : CSt (tms μ9 0 11 ((μ9 0 11) + (1 : Int32))) (sUp S m A) (a + 1) r k := by
  obtain ⟨h1, h2, h3, h4, h5⟩ := h
  refine ⟨fun i hi => ?_, by simp [tms_ix, h0, h2], by simp [tms_ix, h0, h3], by simp [tms_ix, h0, h4], fun i => by rw [tms_ne (by decide)]; exact hG h5 i⟩
  by_cases e : i = m
  · subst e
    rw [sUp_at]
    exact hM.same (tms_ne (by omega)) (tms_ne (by omega))
  · rw [sUp_ne e]
    exact (h1 i hi).same (by rw [tms_ne (by omega)]; exact hf _ (by omega) (by omega) (by omega) (by omega)) (by rw [tms_ne (by omega)]; exact hf _ (by omega) (by omega) (by omega) (by omega))
theorem CSt.ref (h : CSt μ S a r k) (hz : ZF μ μ9) : CSt (tms μ9 0 12 ((μ9 0 12) + (1 : Int32))) S a (r + 1) k := by
  obtain ⟨h1, h2, h3, h4, h5⟩ := h
  have h0 := hz.1 0 (by omega)
  exact ⟨fun i hi => (h1 i hi).same (by rw [tms_ne (by omega)]; exact hz.1 _ (by omega)) (by rw [tms_ne (by omega)]; exact hz.1 _ (by omega)), by simp [tms_ix, h0, h2], by simp [tms_ix, h0, h3], by simp [tms_ix, h0, h4], fun i => by rw [tms_ne (by decide)]; exact hz.2 h5 i⟩
theorem CSt.keep (h : CSt μ S a r k) (hz : ZF μ μ9) : CSt μ9 S a r k := by
  obtain ⟨h1, h2, h3, h4, h5⟩ := h
  have h0 := hz.1 0 (by omega)
  exact ⟨fun i hi => (h1 i hi).same (hz.1 _ (by omega)) (hz.1 _ (by omega)), by rw [h0]; exact h2, by rw [h0]; exact h3, by rw [h0]; exact h4, hz.2 h5⟩
theorem kdm {m : Nat} (h : m < 4) : kd (2 + 2 * m) = 2 := kd_ma m h
theorem tlm {m : Nat} (h : m < 4) : tl (2 + 2 * m + 1) = 21 := by
  rcases (show m = 0 ∨ m = 1 ∨ m = 2 ∨ m = 3 by omega) with rfl | rfl | rfl | rfl <;> rfl
theorem e_mach {Qo : Nat → TMem → Prop} (h : ∀ m, m < 4 → a1 = nI m → Qo (2 + 2 * m) μ) (hX : ¬ M1 a1 → X "java/lang/IndexOutOfBoundsException" μ) : wp_X9_machineAt μ a1 Qo X := by
  refine ⟨fun c => hX (fun m => ?_), fun c1 => ⟨fun c2 => ?_, fun c => hX (fun m => ?_)⟩⟩
  · rw [l_lt, ii_0] at c
    have := m.1
    omega
  · rw [l_lt, ii_0] at c1
    rw [l_lt, show (4 : Int32).toInt = 4 from rfl] at c2
    obtain ⟨m, hm, rfl⟩ := s_ex (x := a1) (by omega)
    rw [nI_toInt hm] at c2
    refine ⟨s_in (by omega) hm, ?_⟩
    rw [nI_clamp hm]
    exact h m (by omega) rfl
  · have := m.2
    exact c (by rw [l_lt, show (4 : Int32).toInt = 4 from rfl]; omega)
theorem M1_nI {m : Nat} (h : m < 4) : M1 (nI m) := by
  have e := nI_toInt (n := m) (by omega)
  exact ⟨by rw [e]; omega, by rw [e]; omega⟩
/-- a number of a state -/
def STn (s : Int32) (n : Nat) : Prop := 0 ≤ s.toInt ∧ s.toInt < n
def IN (s : Int32) (lo hi : Int) : Prop := lo ≤ s.toInt ∧ s.toInt ≤ hi
theorem e_stat {k0 n : Nat} {s : Int32} {Qv : TMem → Prop} (hn : μ k0 1 = nI n) (hn2 : n < 2 ^ 31) (h : ∀ t, t < n → s = nI t → Qv μ) (hX : ¬ STn s n → X "java/lang/IndexOutOfBoundsException" μ) : wp_X9_checkState k0 μ s Qv X := by
  refine ⟨fun c => hX (fun m => ?_), fun c1 => ⟨fun c2 => ?_, fun c => hX (fun m => ?_)⟩⟩
  · rw [l_lt, ii_0] at c
    have := m.1
    omega
  · rw [l_lt, ii_0] at c1
    rw [hn, l_lt, nI_toInt hn2] at c2
    obtain ⟨t, ht, rfl⟩ := s_ex (x := s) (by omega)
    rw [nI_toInt ht] at c2
    exact h t (by omega) rfl
  · have := m.2
    exact c (by rw [hn, l_lt, nI_toInt hn2]; omega)
theorem STn_nI {t n : Nat} (h : t < n) (hn : n < 2 ^ 31) : STn (nI t) n := by
  have e := nI_toInt (n := t) (by omega)
  exact ⟨by rw [e]; omega, by rw [e]; omega⟩
theorem e_rng {lo hi : Int32} {s : Int32} {Qv : TMem → Prop} (h : IN s lo.toInt hi.toInt → Qv μ) (hX : ¬ IN s lo.toInt hi.toInt → X "java/lang/IllegalArgumentException" μ) : wp_X9_checkRange μ s lo hi Qv X := e_range h hX
theorem IN_ex {s : Int32} {lo hi : Int} (h : IN s lo hi) (h0 : 0 ≤ lo) : ∃ t : Nat, s = nI t ∧ lo ≤ t ∧ (t : Int) ≤ hi := by
  obtain ⟨t, ht, rfl⟩ := s_ex (x := s) (by have := h.1; omega)
  have := h.1
  have := h.2
  rw [nI_toInt ht] at *
  exact ⟨t, rfl, by omega, by omega⟩
theorem e_sign {s : Int32} {Qv : TMem → Prop} (h : ∀ t, t < 3 → s = nI t → Qv μ) (hX : ¬ IN s 0 2 → X "java/lang/IllegalArgumentException" μ) : wp_X9_checkSign μ s Qv X := by
  refine e_rng (fun z => ?_) (fun z => hX z)
  obtain ⟨t, e, h1, h2⟩ := IN_ex z (by decide)
  have h2' : (t : Int) ≤ 2 := h2
  exact h t (by omega) e
theorem FK.zone {m : Nat} (hm : m < 4) (h : FK (2 + 2 * m) μ μ9) : μ9 0 = μ 0 ∧ (∀ j, 2 ≤ j → j ≤ 9 → j ≠ 2 + 2 * m → j ≠ 2 + 2 * m + 1 → μ9 j = μ j) ∧ (GB μ → GB μ9) := ⟨h 0 (by omega) (by omega), fun j _ _ x y => h j x y, fun g i => by rw [h 43 (by omega) (by omega)]; exact g i⟩
theorem ee_begin (h : CSt μ S a r k) (hv : AVs S) (hok : ∀ m n, m < 4 → a1 = nI m → a2 = nI n → 1 ≤ n → n ≤ 7 → ∀ μ9, CSt μ9 (sUp S m (aC n)) (a + 1) r k → Q (AC (S m)) μ9) (h1 : ¬ M1 a1 → X "java/lang/IndexOutOfBoundsException" μ) (h2 : M1 a1 → ¬ IN a2 1 7 → X "java/lang/IllegalArgumentException" μ) : wp_X9_begin μ a1 a2 Q X := by
  refine e_mach (fun m hm em => e_rng (fun z => ?_) (fun z => h2 (em ▸ M1_nI hm) z)) h1
  obtain ⟨n, en, n1, n7⟩ := IN_ex z (by decide)
  have n1' : (1 : Int) ≤ n := n1
  have n7' : (n : Int) ≤ 7 := n7
  have hM := h.1 m hm
  have hA := hv m hm
  have t21 := tlm hm
  refine e_countA hM.1 (by have := hA.2.1; omega) (by have := hA.2.1; omega) hM.2.2.2 ?_
  rw [en]
  refine e_clearA (kdm hm) (by omega) (by omega) (fun μ7 h7 f7 => ?_)
  have z7 := FK.zone hm f7
  exact hok m n hm em en (by omega) (by omega) _ (h.act h7 z7.1 z7.2.1 z7.2.2)
/-- an arrow more or less -/
def wW (x : Int32) (t : Nat) (b : Int32) : Int32 := if b = 0 then x &&& (((1 : Int32) <<< (nI t &&& 31)) ^^^ (-1 : Int32)) else x ||| ((1 : Int32) <<< (nI t &&& 31))
theorem e_W {x b : Int32} {t : Nat} {Qi : Int32 → Prop} (h : Qi (wW x t b)) : wp_X9_withOrWithout x (nI t) b Qi := by
  refine ⟨fun c => ?_, fun c => ?_⟩
  · rw [wW, if_pos c] at h; exact h
  · rw [wW, if_neg c] at h; exact h
/-- one cell changed -/
def aI (A : AM) (i : Nat) (v : Int32) : AM := (A.1, A.2.1, A.2.2.1, fun j => if j = i then v else A.2.2.2 j)
theorem HM.put {k0 i : Nat} {v : Int32} {A : AM} (h : HM μ k0 A) : HM (tms μ (k0 + 1) i v) k0 (aI A i v) := by
  obtain ⟨h1, h2, h3, h4⟩ := h
  refine ⟨by rw [tms_ne (by omega)]; exact h1, by rw [tms_ne (by omega)]; exact h2, by rw [tms_ne (by omega)]; exact h3, fun j hj => ?_⟩
  rw [tms_eq]
  show _ = if j = i then v else A.2.2.2 j
  by_cases e : j = i
  · rw [if_pos e, e, upd_at]
  · rw [if_neg e, upd_ne e]
    exact h4 j hj
theorem FK.put {k0 i : Nat} {v : Int32} : FK k0 μ (tms μ (k0 + 1) i v) := fun j _ y => tms_ne y
/-- the arguments of arrow and lead -/
def ARG (S : Nat → AM) (a1 a2 a3 a4 : Int32) (m f s t : Nat) : Prop := m < 4 ∧ a1 = nI m ∧ a2 = nI f ∧ a4 = nI t ∧ a3 = nI s ∧ f < (S m).1 ∧ t < (S m).1 ∧ s < 3
/-- an arrow's states are there -/
def ARS (S : Nat → AM) (a1 a2 a4 : Int32) : Prop := ∃ m, m < 4 ∧ a1 = nI m ∧ STn a2 (S m).1 ∧ STn a4 (S m).1
theorem nI_inj4 {m m' : Nat} (h : m < 4) (h' : m' < 4) (e : nI m = nI m') : m = m' := (nI_eq (by omega) (by omega)).mp e
theorem ee_arrow (h : CSt μ S a r k) (hv : AVs S) (hok : ∀ m f s t, ARG S a1 a2 a3 a4 m f s t → ∀ μ9, CSt μ9 (sUp S m (aI (S m) (3 * f + s) (wW ((S m).2.2.2 (3 * f + s)) t a5))) (a + 1) r k → Q (if wW ((S m).2.2.2 (3 * f + s)) t a5 = (S m).2.2.2 (3 * f + s) then 0 else 1) μ9) (h1 : ¬ ARS S a1 a2 a4 → X "java/lang/IndexOutOfBoundsException" μ) (h2 : ARS S a1 a2 a4 → ¬ IN a3 0 2 → X "java/lang/IllegalArgumentException" μ) : wp_X9_arrow μ a1 a2 a3 a4 a5 Q X := by
  refine e_mach (fun m hm em => ?_) (fun z => h1 (fun ⟨m, hm, e, _⟩ => z (e ▸ M1_nI hm)))
  have hM := h.1 m hm
  have hA := hv m hm
  have t21 := tlm hm
  have a7 := hA.2.1
  refine e_stat hM.1 (by omega) (fun f hf ef => e_stat hM.1 (by omega) (fun t ht et => e_sign (fun s hs es => ?_) (fun z => h2 ⟨m, hm, em, ef ▸ STn_nI hf (by omega), et ▸ STn_nI ht (by omega)⟩ z)) (fun z => h1 (fun ⟨m', hm', e', _, e4⟩ => z (by rw [nI_inj4 hm hm' (em.symm.trans e')]; exact e4)))) (fun z => h1 (fun ⟨m', hm', e', e4, _⟩ => z (by rw [nI_inj4 hm hm' (em.symm.trans e')]; exact e4)))
  rw [ef, es]
  refine e_atN (by omega) ?_
  rw [hM.2.2.2 _ (by omega), et]
  refine e_W (e_putN (by omega) ?_)
  have z7 := FK.zone (μ := μ) hm (FK.put (i := 3 * f + s) (v := wW ((S m).2.2.2 (3 * f + s)) t a5))
  have hc := h.act (m := m) hM.put z7.1 z7.2.1 z7.2.2
  have g := hok m f s t ⟨hm, em, ef, et, es, hf, ht, hs⟩ _ hc
  refine ⟨fun w => ?_, fun w => ?_⟩
  · rw [if_pos w] at g; exact g
  · rw [if_neg w] at g; exact g
theorem ee_lead (h : CSt μ S a r k) (hv : AVs S) (hok : ∀ m f s t, ARG S a1 a2 a3 a4 m f s t → ∀ μ9, CSt μ9 (sUp S m (aI (S m) (3 * f + s) ((1 : Int32) <<< (nI t &&& 31)))) (a + 1) r k → Q (pop ((S m).2.2.2 (3 * f + s))) μ9) (h1 : ¬ ARS S a1 a2 a4 → X "java/lang/IndexOutOfBoundsException" μ) (h2 : ARS S a1 a2 a4 → ¬ IN a3 0 2 → X "java/lang/IllegalArgumentException" μ) : wp_X9_lead μ a1 a2 a3 a4 Q X := by
  refine e_mach (fun m hm em => ?_) (fun z => h1 (fun ⟨m, hm, e, _⟩ => z (e ▸ M1_nI hm)))
  have hM := h.1 m hm
  have hA := hv m hm
  have t21 := tlm hm
  have a7 := hA.2.1
  refine e_stat hM.1 (by omega) (fun f hf ef => e_stat hM.1 (by omega) (fun t ht et => e_sign (fun s hs es => ?_) (fun z => h2 ⟨m, hm, em, ef ▸ STn_nI hf (by omega), et ▸ STn_nI ht (by omega)⟩ z)) (fun z => h1 (fun ⟨m', hm', e', _, e4⟩ => z (by rw [nI_inj4 hm hm' (em.symm.trans e')]; exact e4)))) (fun z => h1 (fun ⟨m', hm', e', e4, _⟩ => z (by rw [nI_inj4 hm hm' (em.symm.trans e')]; exact e4)))
  rw [ef, es]
  refine e_atN (by omega) ?_
  rw [hM.2.2.2 _ (by omega), et]
  refine e_putN (by omega) (pop_w ?_)
  have z7 := FK.zone (μ := μ) hm (FK.put (i := 3 * f + s) (v := (1 : Int32) <<< (nI t &&& 31)))
  exact hok m f s t ⟨hm, em, ef, et, es, hf, ht, hs⟩ _ (h.act (m := m) hM.put z7.1 z7.2.1 z7.2.2)
/-- starts or goals marked -/
def aK (A : AM) (g : Int32) (x : Int32) : AM := if g = 0 then (A.1, x, A.2.2) else (A.1, A.2.1, x, A.2.2.2)
def aKv (A : AM) (g : Int32) : Int32 := if g = 0 then A.2.1 else A.2.2.1
theorem ee_mark (h : CSt μ S a r k) (hv : AVs S) (hok : ∀ m t, m < 4 → a1 = nI m → a2 = nI t → t < (S m).1 → ∀ μ9, CSt μ9 (sUp S m (aK (S m) a3 (wW (aKv (S m) a3) t a4))) (a + 1) r k → Q (if wW (aKv (S m) a3) t a4 = aKv (S m) a3 then 0 else 1) μ9) (h1 : ¬ (∃ m, m < 4 ∧ a1 = nI m ∧ STn a2 (S m).1) → X "java/lang/IndexOutOfBoundsException" μ) : wp_X9_mark μ a1 a2 a3 a4 Q X := by
  refine e_mach (fun m hm em => ?_) (fun z => h1 (fun ⟨m, hm, e, _⟩ => z (e ▸ M1_nI hm)))
  have hM := h.1 m hm
  have hA := hv m hm
  have a7 := hA.2.1
  refine e_stat hM.1 (by omega) (fun t ht et => ?_) (fun z => h1 (fun ⟨m', hm', e', e4⟩ => z (by rw [nI_inj4 hm hm' (em.symm.trans e')]; exact e4)))
  obtain ⟨m1, m2, m3, m4⟩ := hM
  rw [et]
  have fr : ∀ i v, FK (2 + 2 * m) μ (tms μ (2 + 2 * m) i v) := fun i v j x _ => tms_ne x
  refine ⟨fun z => ?_, fun z => ?_⟩
  · rw [m2]
    have z7 := FK.zone hm (fr 3 (wW (S m).2.1 t a4))
    have hc := h.act (m := m) (A := aK (S m) a3 (wW (aKv (S m) a3) t a4)) (μ9 := tms μ (2 + 2 * m) 3 (wW (S m).2.1 t a4)) (by
      rw [aK, aKv, if_pos z, if_pos z]
      exact ⟨by simp [tms_ix, m1], by simp [tms_ix], by simp [tms_ix, m3], fun j hj => by rw [tms_ne (by omega)]; exact m4 j hj⟩) z7.1 z7.2.1 z7.2.2
    have g := hok m t hm em et ht _ hc
    have ev : aKv (S m) a3 = (S m).2.1 := by rw [aKv, if_pos z]
    rw [ev] at g
    refine e_W ⟨fun _ => ⟨fun w => ?_, fun w => ?_⟩, fun w => absurd z w⟩
    · rw [if_pos w] at g; exact g
    · rw [if_neg w] at g; exact g
  · rw [m3]
    have z7 := FK.zone hm (fr 2 (wW (S m).2.2.1 t a4))
    have hc := h.act (m := m) (A := aK (S m) a3 (wW (aKv (S m) a3) t a4)) (μ9 := tms μ (2 + 2 * m) 2 (wW (S m).2.2.1 t a4)) (by
      rw [aK, aKv, if_neg z, if_neg z]
      exact ⟨by simp [tms_ix, m1], by simp [tms_ix, m2], by simp [tms_ix], fun j hj => by rw [tms_ne (by omega)]; exact m4 j hj⟩) z7.1 z7.2.1 z7.2.2
    have g := hok m t hm em et ht _ hc
    have ev : aKv (S m) a3 = (S m).2.2.1 := by rw [aKv, if_neg z]
    rw [ev] at g
    refine e_W ⟨fun w => absurd w z, fun _ => ⟨fun w => ?_, fun w => ?_⟩⟩
    · rw [if_pos w] at g; exact g
    · rw [if_neg w] at g; exact g
end SAC
end
/-! part 9sad.acts2 -/
section
section SAD
variable {μ μ9 : TMem} {S : Nat → AM} {a r k : Int32} {a1 a2 a3 a4 a5 : Int32} {Q : Int32 → TMem → Prop} {X : String → TMem → Prop}
/-- 0 if so, otherwise 1 -/
def BV (v : Int32) (P : Prop) : Prop := (P → v = 0) ∧ (¬ P → v = 1)
theorem BV.uniq {v w : Int32} {P : Prop} (h : BV v P) (g : BV w P) : v = w := by
  by_cases p : P
  · rw [h.1 p, g.1 p]
  · rw [h.2 p, g.2 p]
def ONE2 (a1 a2 : Int32) : Prop := M1 a1 ∧ M1 a2
theorem ee_copy (h : CSt μ S a r k) (hv : AVs S) (hok : ∀ m m', m < 4 → m' < 4 → a1 = nI m → a2 = nI m' → ∀ v, BV v (aSm (S m') (S m)) → ∀ μ9, CSt μ9 (sUp S m' (S m)) (a + 1) r k → Q v μ9) (h1 : ¬ ONE2 a1 a2 → X "java/lang/IndexOutOfBoundsException" μ) : wp_X9_copy μ a1 a2 Q X := by
  refine e_mach (fun m hm em => e_mach (fun m' hm' em' => ?_) (fun z => h1 (fun w => z w.2))) (fun z => h1 (fun w => z w.1))
  have hM := h.1 m hm
  have hM' := h.1 m' hm'
  have a7 := (hv m hm).2.1
  have a7' := (hv m' hm').2.1
  have t1 := tlm hm
  have t2 := tlm hm'
  have go : ∀ v, BV v (aSm (S m') (S m)) → wp_X2_become (2 + 2 * m') (2 + 2 * m) μ (fun μ8 => Q v (tms μ8 0 11 ((μ8 0 11) + (1 : Int32)))) := fun v hb => e_become (kdm hm') (kdm hm) hM (by omega) (by omega) (by omega) (fun μ8 h8 f8 => by
    have z := FK.zone hm' f8
    exact hok m m' hm hm' em em' v hb _ (h.act h8 z.1 z.2.1 z.2.2))
  have res : ∀ (v : Int32) (w : Int32), BV v (aSm (S m') (S m)) → (w = 0 ↔ v = 1) → wp_X2_become (2 + 2 * m') (2 + 2 * m) μ (fun (μ8 : TMem) => (w = 0 → (wp_X9_acted μ8 (1 : Int32) (fun (r11 : Int32) (μ10 : TMem) => Q r11 μ10))) ∧ (¬ w = 0 → (wp_X9_acted μ8 (0 : Int32) (fun (r13 : Int32) (μ12 : TMem) => Q r13 μ12)))) := fun v w hb hw => e_become (kdm hm') (kdm hm) hM (by omega) (by omega) (by omega) (fun μ8 h8 f8 => by
    have z := FK.zone hm' f8
    have g := hok m m' hm hm' em em' v hb _ (h.act h8 z.1 z.2.1 z.2.2)
    refine ⟨fun q => ?_, fun q => ?_⟩
    · rw [hw.mp q] at g; exact g
    · have : v = 0 := by
        by_cases p : aSm (S m') (S m)
        · exact hb.1 p
        · exact absurd (hw.mpr (hb.2 p)) q
      rw [this] at g; exact g)
  refine e_isSame hM' hM (by omega) (by omega) (by omega) (by omega) (fun p => ?_) (fun p => ?_)
  · exact res 0 1 ⟨fun _ => rfl, fun q => absurd p q⟩ (by decide)
  · exact res 1 0 ⟨fun q => absurd q p, fun _ => rfl⟩ (by decide)
theorem ee_swap (h : CSt μ S a r k) (hv : AVs S) (hok : ∀ m m', m < 4 → m' < 4 → a1 = nI m → a2 = nI m' → ∀ v, BV v (aSm (S m) (S m')) → ∀ μ9, CSt μ9 (sUp (sUp S m (S m')) m' (S m)) (a + 1) r k → Q v μ9) (h1 : ¬ ONE2 a1 a2 → X "java/lang/IndexOutOfBoundsException" μ) : wp_X9_swap μ a1 a2 Q X := by
  refine e_mach (fun m hm em => e_mach (fun m' hm' em' => ?_) (fun z => h1 (fun w => z w.2))) (fun z => h1 (fun w => z w.1))
  have hM := h.1 m hm
  have hM' := h.1 m' hm'
  have a7 := (hv m hm).2.1
  have a7' := (hv m' hm').2.1
  have t1 := tlm hm
  have t2 := tlm hm'
  have t10 : tl 11 = 21 := rfl
  have res : ∀ (v : Int32) (w : Int32), BV v (aSm (S m) (S m')) → (w = 0 ↔ v = 1) → wp_X2_become 10 (2 + 2 * m) μ (fun (μ8 : TMem) => wp_X2_become (2 + 2 * m) (2 + 2 * m') μ8 (fun (μ9 : TMem) => wp_X2_become (2 + 2 * m') 10 μ9 (fun (μ10 : TMem) => (w = 0 → (wp_X9_acted μ10 (1 : Int32) (fun (r13 : Int32) (μ12 : TMem) => Q r13 μ12))) ∧ (¬ w = 0 → (wp_X9_acted μ10 (0 : Int32) (fun (r15 : Int32) (μ14 : TMem) => Q r15 μ14)))))) := fun v w hb hw => by
    refine e_become (k0 := 10) rfl (kdm hm) hM (by omega) (show _ ≤ tl 11 by omega) (by omega) (fun μ8 h8 f8 => ?_)
    have hM8 : HM μ8 (2 + 2 * m') (S m') := hM'.same (f8 _ (by omega) (by omega)) (f8 _ (by omega) (by omega))
    refine e_become (kdm hm) (kdm hm') hM8 (by omega) (by omega) (by omega) (fun μ9 h9 f9 => ?_)
    have hM9 : HM μ9 10 (S m) := h8.same (f9 _ (by omega) (by omega)) (f9 _ (by omega) (by omega))
    refine e_become (kdm hm') (k1 := 10) rfl hM9 (by omega) (by omega) (show _ ≤ tl 11 by omega) (fun μ10 h10 f10 => ?_)
    obtain ⟨c1, c2, c3, c4, c5⟩ := h
    have z0 : μ10 0 = μ 0 := by rw [f10 0 (by omega) (by omega), f9 0 (by omega) (by omega), f8 0 (by omega) (by omega)]
    have zG : GB μ10 := fun i => by rw [f10 43 (by omega) (by omega), f9 43 (by omega) (by omega), f8 43 (by omega) (by omega)]; exact c5 i
    have hC : CSt (tms μ10 0 11 ((μ10 0 11) + (1 : Int32))) (sUp (sUp S m (S m')) m' (S m)) (a + 1) r k := by
      refine ⟨fun i hi => ?_, by simp [tms_ix, z0, c2], by simp [tms_ix, z0, c3], by simp [tms_ix, z0, c4], fun i => by rw [tms_ne (by decide)]; exact zG i⟩
      by_cases e : i = m'
      · rw [e, sUp_at]
        exact h10.same (tms_ne (by omega)) (tms_ne (by omega))
      · rw [sUp_ne e]
        by_cases e2 : i = m
        · rw [e2, sUp_at]
          exact h9.same (by rw [tms_ne (by omega)]; exact f10 _ (by omega) (by omega)) (by rw [tms_ne (by omega)]; exact f10 _ (by omega) (by omega))
        · rw [sUp_ne e2]
          exact (c1 i hi).same (by rw [tms_ne (by omega), f10 _ (by omega) (by omega), f9 _ (by omega) (by omega), f8 _ (by omega) (by omega)]) (by rw [tms_ne (by omega), f10 _ (by omega) (by omega), f9 _ (by omega) (by omega), f8 _ (by omega) (by omega)])
    have g := hok m m' hm hm' em em' v hb _ hC
    refine ⟨fun q => ?_, fun q => ?_⟩
    · rw [hw.mp q] at g; exact g
    · have : v = 0 := by
        by_cases p : aSm (S m) (S m')
        · exact hb.1 p
        · exact absurd (hw.mpr (hb.2 p)) q
      rw [this] at g; exact g
  refine e_isSame hM hM' (by omega) (by omega) (by omega) (by omega) (fun p => ?_) (fun p => ?_)
  · exact res 0 1 ⟨fun _ => rfl, fun q => absurd p q⟩ (by decide)
  · exact res 1 0 ⟨fun q => absurd q p, fun _ => rfl⟩ (by decide)
theorem ee_turn (h : CSt μ S a r k) (hv : AVs S) (hok : ∀ m, m < 4 → a1 = nI m → ∀ μ9, CSt μ9 (sUp S m (aT (S m))) (a + 1) r k → Q (AC (aT (S m))) μ9) (h1 : ¬ M1 a1 → X "java/lang/IndexOutOfBoundsException" μ) : wp_X9_turn μ a1 Q X := by
  refine e_mach (fun m hm em => ?_) h1
  have hM := h.1 m hm
  have a7 := (hv m hm).2.1
  have t1 := tlm hm
  have t10 : tl 11 = 21 := rfl
  refine e_become (k0 := 10) rfl (kdm hm) hM (by omega) (show _ ≤ tl 11 by omega) (by omega) (fun μ3 h3 f3 => ?_)
  refine e_becomeRound (kdm hm) (k1 := 10) rfl (by omega) h3 (by omega) (by omega) (show _ ≤ tl 11 by omega) (fun μ4 h4 f4 => ?_)
  refine e_countA h4.1 (show (S m).1 ≤ 32 by omega) (show 3 * (S m).1 ≤ _ by omega) h4.2.2.2 ?_
  refine hok m hm em _ (h.act h4 ?_ (fun j x1 x2 x3 x4 => ?_) (fun g i => ?_))
  · rw [f4 0 (by omega) (by omega), f3 0 (by omega) (by omega)]
  · rw [f4 j x3 x4, f3 j (by omega) (by omega)]
  · rw [f4 43 (by omega) (by omega), f3 43 (by omega) (by omega)]
    exact g i
/-- goals and others exchanged -/
def aO (A : AM) : AM := (A.1, A.2.1, (((1 : Int32) <<< (nI A.1 &&& 31)) - (1 : Int32)) &&& (A.2.2.1 ^^^ (-1 : Int32)), A.2.2.2)
theorem ee_other (h : CSt μ S a r k) (hv : AVs S) (hok : ∀ m, m < 4 → a1 = nI m → aPl (S m) → ∀ μ9, CSt μ9 (sUp S m (aO (S m))) (a + 1) r k → Q (pop (aO (S m)).2.2.1) μ9) (hre : ∀ m, m < 4 → a1 = nI m → ¬ aPl (S m) → ∀ μ9, CSt μ9 S a (r + 1) k → Q (-9) μ9) (h1 : ¬ M1 a1 → X "java/lang/IndexOutOfBoundsException" μ) : wp_X9_other μ a1 Q X := by
  refine e_mach (fun m hm em => ?_) h1
  have hM := h.1 m hm
  have a7 := (hv m hm).2.1
  have t1 := tlm hm
  refine e_isPlain hM (by omega) (by omega) (fun p => ⟨fun _ => ?_, fun q => absurd q (by decide)⟩) (fun p => ⟨fun q => absurd rfl q, fun _ => hre m hm em p _ (h.ref ZF.rf)⟩)
  obtain ⟨m1, m2, m3, m4⟩ := hM
  have fr : FK (2 + 2 * m) μ (tms μ (2 + 2 * m) 2 (aO (S m)).2.2.1) := fun j x _ => tms_ne x
  have z := FK.zone hm fr
  have hc := h.act (m := m) (A := aO (S m)) (μ9 := tms μ (2 + 2 * m) 2 (aO (S m)).2.2.1) ⟨by simp [tms_ix, m1, aO], by simp [tms_ix, m2, aO], by simp [tms_ix], fun j hj => by rw [tms_ne (by omega)]; exact m4 j hj⟩ z.1 z.2.1 z.2.2
  have g := hok m hm em p _ hc
  have e : ((((1 : Int32) <<< ((μ (2 + 2 * m) 1) &&& 31)) - (1 : Int32)) &&& ((μ (2 + 2 * m) 2) ^^^ (-1 : Int32))) = (aO (S m)).2.2.1 := by rw [m1, m3]; rfl
  show wp_J6_bitCount_0f7a4 ((tms μ (2 + 2 * m) 2 ((((1 : Int32) <<< ((μ (2 + 2 * m) 1) &&& 31)) - (1 : Int32)) &&& ((μ (2 + 2 * m) 2) ^^^ (-1 : Int32)))) (2 + 2 * m) 2) (fun r10 => Q r10 (tms (tms μ (2 + 2 * m) 2 ((((1 : Int32) <<< ((μ (2 + 2 * m) 1) &&& 31)) - (1 : Int32)) &&& ((μ (2 + 2 * m) 2) ^^^ (-1 : Int32)))) 0 11 (((tms μ (2 + 2 * m) 2 ((((1 : Int32) <<< ((μ (2 + 2 * m) 1) &&& 31)) - (1 : Int32)) &&& ((μ (2 + 2 * m) 2) ^^^ (-1 : Int32)))) 0 11) + (1 : Int32))))
  rw [e, show (tms μ (2 + 2 * m) 2 (aO (S m)).2.2.1) (2 + 2 * m) 2 = (aO (S m)).2.2.1 by rw [tms_eq, upd_at]]
  exact pop_w g
theorem ee_grow (h : CSt μ S a r k) (hv : AVs S) (hok : ∀ m, m < 4 → a1 = nI m → (S m).1 < 7 → ∀ μ9, CSt μ9 (sUp S m ((S m).1 + 1, (S m).2)) (a + 1) r k → Q (nI (S m).1) μ9) (hre : ∀ m, m < 4 → a1 = nI m → ¬ (S m).1 < 7 → ∀ μ9, CSt μ9 S a (r + 1) k → Q (-9) μ9) (h1 : ¬ M1 a1 → X "java/lang/IndexOutOfBoundsException" μ) : wp_X9_grow μ a1 Q X := by
  refine e_mach (fun m hm em => ?_) h1
  have hM := h.1 m hm
  have a7 := (hv m hm).2.1
  have t1 := tlm hm
  refine ⟨fun z => ?_, fun z => ?_⟩
  · rw [hM.1, show (7 : Int32) = nI 7 from rfl, nI_ltI (by omega) (by omega)] at z
    refine e_addState (kdm hm) hM (by omega) (by omega) (hv m hm).2.2.2.2.2 (fun μ4 h4 f4 => ?_)
    have zz := FK.zone hm f4
    have g := hok m hm em z _ (h.act h4 zz.1 zz.2.1 zz.2.2)
    have e : μ4 (2 + 2 * m) 1 - (1 : Int32) = nI (S m).1 := by rw [h4.1]; exact nI_pred _
    rw [e]
    exact g
  · rw [hM.1, show (7 : Int32) = nI 7 from rfl, nI_ltI (by omega) (by omega)] at z
    exact hre m hm em z _ (h.ref ZF.rf)
theorem ee_drop (h : CSt μ S a r k) (hv : AVs S) (hok : ∀ m s, m < 4 → a1 = nI m → s < (S m).1 → a2 = nI s → (S m).1 ≠ 1 → ∀ μ9, CSt μ9 (sUp S m (aD (S m) s)) (a + 1) r k → Q (AC (S m) - AC (aD (S m) s)) μ9) (hre : ∀ m s, m < 4 → a1 = nI m → s < (S m).1 → a2 = nI s → (S m).1 = 1 → ∀ μ9, CSt μ9 S a (r + 1) k → Q (-9) μ9) (h1 : ¬ (∃ m, m < 4 ∧ a1 = nI m ∧ STn a2 (S m).1) → X "java/lang/IndexOutOfBoundsException" μ) : wp_X9_drop μ a1 a2 Q X := by
  refine e_mach (fun m hm em => ?_) (fun z => h1 (fun ⟨m, hm, e, _⟩ => z (e ▸ M1_nI hm)))
  have hM := h.1 m hm
  have a7 := (hv m hm).2.1
  have t1 := tlm hm
  refine e_stat hM.1 (by omega) (fun s hs es => ?_) (fun z => h1 (fun ⟨m', hm', e', e4⟩ => z (by rw [nI_inj4 hm hm' (em.symm.trans e')]; exact e4)))
  refine ⟨fun z => ?_, fun z => ?_⟩
  · rw [hM.1, show (1 : Int32) = nI 1 from rfl, nI_eq (by omega) (by omega)] at z
    refine e_countA hM.1 (by omega) (by omega) hM.2.2.2 ?_
    rw [es]
    refine e_removeState (kdm hm) hM hs (by omega) (by omega) (fun μ8 h8 f8 => ?_)
    refine e_countA h8.1 (show (S m).1 - 1 ≤ 32 by omega) (show 3 * ((S m).1 - 1) ≤ _ by omega) h8.2.2.2 ?_
    have zz := FK.zone hm f8
    exact hok m s hm em hs es z _ (h.act h8 zz.1 zz.2.1 zz.2.2)
  · rw [hM.1, show (1 : Int32) = nI 1 from rfl, nI_eq (by omega) (by omega)] at z
    exact hre m s hm em hs es z _ (h.ref ZF.rf)
/-- what becomes of a machine that was made: it, if it is there and small -/
def SM7 (o : Option DF) (D : DF) : Prop := o = some D ∧ D.1 ≤ 7 ∧ 1 ≤ D.1 ∧ ∀ j, j < 3 * D.1 → D.2.1 j < D.1
def NO7 (o : Option DF) : Prop := ∀ D, o = some D → ¬ D.1 ≤ 7
theorem ee_become {m : Nat} {D : DF} (h : CSt μ S a r k) (hz : ZF μ μ9) (hP : HP μ9 57 D) (hm : m < 4) (hok : D.1 ≤ 7 → ∀ μ8, CSt μ8 (sUp S m (aP D)) (a + 1) r k → Q (nI D.1) μ8) (hre : ¬ D.1 ≤ 7 → ∀ μ8, CSt μ8 S a (r + 1) k → Q (-9) μ8) : wp_X9_becomeMade (2 + 2 * m) μ9 Q := by
  have t1 := tlm hm
  have d32 := hP.2.1
  refine ⟨fun z => ?_, fun z => ?_⟩
  · rw [hP.2.2.2.1, show (7 : Int32) = nI 7 from rfl, nI_leI (by omega) (by omega)] at z
    refine e_becomePlain (kdm hm) (k1 := 57) rfl hP (by omega) (fun μ2 h2 f2 => ?_)
    have zz := FK.zone hm f2
    have e : μ2 57 1 = nI D.1 := by rw [f2 57 (by omega) (by omega)]; exact hP.2.2.2.1
    show Q (μ2 57 1) _
    rw [e]
    exact hok z _ ((h.keep hz).act h2 zz.1 zz.2.1 zz.2.2)
  · rw [hP.2.2.2.1, show (7 : Int32) = nI 7 from rfl, nI_leI (by omega) (by omega)] at z
    exact hre z _ ((h.keep hz).ref ZF.rf)
/-- what make makes of a machine -/
def MK2 (A : AM) (b : Int32) : Option DF := if b = 0 then OWM A else LSM A
theorem ee_make (h : CSt μ S a r k) (hv : AVs S) (hok : ∀ m m' D, m < 4 → m' < 4 → a1 = nI m → a3 = nI m' → SM7 (MK2 (S m) a2) D → ∀ μ9, CSt μ9 (sUp S m' (aP D)) (a + 1) r k → Q (nI D.1) μ9) (hre : ∀ m m', m < 4 → m' < 4 → a1 = nI m → a3 = nI m' → NO7 (MK2 (S m) a2) → ∀ μ9, CSt μ9 S a (r + 1) k → Q (-9) μ9) (h1 : ¬ ONE2 a1 a3 → X "java/lang/IndexOutOfBoundsException" μ) : wp_X9_make μ a1 a2 a3 Q X := by
  refine e_mach (fun m hm em => e_mach (fun m' hm' em' => ?_) (fun z => h1 (fun w => z w.2))) (fun z => h1 (fun w => z w.1))
  have hM := h.1 m hm
  have a7 := (hv m hm).2.1
  have t1 := tlm hm
  have fin : ∀ (D : DF) (μ6 : TMem), MK2 (S m) a2 = some D → HP μ6 57 D → ZF μ μ6 → wp_X9_becomeMade (2 + 2 * m') μ6 (fun r10 μ9 => Q r10 μ9) := fun D μ6 e p z => ee_become h z p hm' (fun w => hok m m' D hm hm' em em' ⟨e, w, p.1, p.2.2.1⟩) (fun w => hre m m' hm hm' em em' (fun D' e' => by rw [e] at e'; cases e'; exact w))
  have non : MK2 (S m) a2 = none → ∀ μ6, ZF μ μ6 → wp_X9_refuse μ6 (fun r12 μ11 => Q r12 μ11) := fun e μ6 z => hre m m' hm hm' em em' (fun D' e' => by rw [e] at e'; cases e') _ (h.ref z)
  refine ⟨fun z => ?_, fun z => ?_⟩
  · have em2 : MK2 (S m) a2 = OWM (S m) := by rw [MK2, if_pos z]
    rw [em2] at fin non
    exact e_makeBy3 (kdm hm) (k2 := 57) rfl hM (by omega) (by omega) (fun D μ6 e p z => ⟨fun _ => fin D μ6 e p z, fun q => absurd q (by decide)⟩) (fun e μ6 z => ⟨fun q => absurd rfl q, fun _ => non e μ6 z⟩)
  · have em2 : MK2 (S m) a2 = LSM (S m) := by rw [MK2, if_neg z]
    rw [em2] at fin non
    exact e_makeBy0 (kdm hm) (k2 := 57) rfl (by decide) hM (by omega) (by omega) (fun D μ6 e p z => ⟨fun _ => fin D μ6 e p z, fun q => absurd q (by decide)⟩) (fun e μ6 z => ⟨fun q => absurd rfl q, fun _ => non e μ6 z⟩)
theorem ee_combine (h : CSt μ S a r k) (hv : AVs S) (hok : ∀ m m' mi w D, m < 4 → m' < 4 → mi < 4 → a1 = nI m → a2 = nI m' → a4 = nI mi → a3 = nI w → w ≤ 3 → SM7 (BLS (S m) (S m') w) D → ∀ μ9, CSt μ9 (sUp S mi (aP D)) (a + 1) r k → Q (nI D.1) μ9) (hre : ∀ m m' mi w, m < 4 → m' < 4 → mi < 4 → a1 = nI m → a2 = nI m' → a4 = nI mi → a3 = nI w → w ≤ 3 → NO7 (BLS (S m) (S m') w) → ∀ μ9, CSt μ9 S a (r + 1) k → Q (-9) μ9) (h1 : ¬ (ONE2 a1 a2 ∧ M1 a4) → X "java/lang/IndexOutOfBoundsException" μ) (h2 : ONE2 a1 a2 ∧ M1 a4 → ¬ IN a3 0 3 → X "java/lang/IllegalArgumentException" μ) : wp_X9_combine μ a1 a2 a3 a4 Q X := by
  refine e_mach (fun m hm em => e_mach (fun m' hm' em' => e_mach (fun mi hmi emi => ?_) (fun z => h1 (fun w => z w.2))) (fun z => h1 (fun w => z w.1.2))) (fun z => h1 (fun w => z w.1.1))
  refine e_rng (fun z => ?_) (fun z => h2 ⟨⟨em ▸ M1_nI hm, em' ▸ M1_nI hm'⟩, emi ▸ M1_nI hmi⟩ z)
  obtain ⟨w, ew, w0, w3⟩ := IN_ex z (by decide)
  have w3' : (w : Int) ≤ 3 := w3
  have hM := h.1 m hm
  have hM' := h.1 m' hm'
  have a7 := (hv m hm).2.1
  have a7' := (hv m' hm').2.1
  have t1 := tlm hm
  have t2 := tlm hm'
  rw [ew]
  refine e_putTogether (kdm hm) (kdm hm') hM hM' (by omega) (by omega) (by omega) (by omega) (by omega) h.2.2.2.2 (fun D μ8 e p z => ⟨fun _ => ?_, fun q => absurd q (by decide)⟩) (fun e μ8 z => ⟨fun q => absurd rfl q, fun _ => hre m m' mi w hm hm' hmi em em' emi ew (by omega) (fun D' e' => by rw [e] at e'; cases e') _ (h.ref z)⟩)
  exact ee_become h z p hmi (fun q => hok m m' mi w D hm hm' hmi em em' emi ew (by omega) ⟨e, q, p.1, p.2.2.1⟩) (fun q => hre m m' mi w hm hm' hmi em em' emi ew (by omega) (fun D' e' => by rw [e] at e'; cases e'; exact q))
end SAD
end
/-! part 9sae.sow -/
section
section SAE
variable {μ μ9 : TMem} {S : Nat → AM} {a r k : Int32} {a1 a2 a3 a4 : Int32} {X : String → TMem → Prop} {k0 N : Nat} {ch seed : Int32}
/-- the cells before i are sown -/
def SCF (N : Nat) (ch seed : Int32) (k0 : Nat) (μ μ4 : TMem) (i : Nat) : Prop := (∀ k, k ≠ k0 + 1 → k ≠ 14 → μ4 k = μ k) ∧ μ4 14 0 = XS (nI N) ch seed i ∧ ∀ j, j < i → μ4 (k0 + 1) j = CE (nI N) ch seed j
theorem e_arrowsF {Q : TMem → Prop} (hk : kd k0 = 2) (hn : μ k0 1 = nI N) (hN1 : 1 ≤ N) (hN7 : N ≤ 7) (hr : 3 * N ≤ tl (k0 + 1)) (hc : 0 ≤ ch.toInt ∧ ch.toInt ≤ 6) (hs : μ 14 0 = seed) (h : ∀ μ9 : TMem, SCF N ch seed k0 μ μ9 (3 * N) → Q μ9) : wp_X2_sowArrows k0 μ ch Q := by
  have q := k14 hk
  have en := nI_toInt (n := N) (by omega)
  have L2 : ∀ (a : Nat) (K : TMem → Prop), a < N → (∀ μ9, SCF N ch seed k0 μ μ9 (3 * a + 3) → K μ9) → ∀ (nf b : Nat) (μ4 : TMem), 3 - b < nf → b ≤ 3 → SCF N ch seed k0 μ μ4 (3 * a + b) → wpl_X2_sowArrows_13 k0 (nI a) ch K nf (nI b) μ4 := by
    intro a K ha hK nf
    induction nf with
    | zero => intro b μ4 hk; exact absurd hk (Nat.not_lt_zero _)
    | succ nf ih =>
      intro b μ4 hk1 hb hS
      refine ⟨fun q9 => ?_, fun q9 => ?_⟩
      · rw [show (3 : Int32) = nI 3 from rfl, nI_leI (by omega) (by omega)] at q9
        rw [show 3 * a + b = 3 * a + 3 by omega] at hS
        exact hK μ4 hS
      rw [show (3 : Int32) = nI 3 from rfl, nI_leI (by omega) (by omega)] at q9
      obtain ⟨s1, s2, s3⟩ := hS
      have hn4 : μ4 k0 1 = nI N := by rw [s1 k0 (by omega) q.1]; exact hn
      intro J hJ
      have key : ∀ (v : Int32) (μ9 : TMem), (∀ k, k ≠ 14 → μ9 k = μ4 k) → μ9 14 0 = (CS (nI N) ch (μ4 14 0)).2 → v = (CS (nI N) ch (μ4 14 0)).1 → J v μ9 := by
        intro v μ9 m9 x9 hv
        refine hJ v μ9 (e_putN (by omega) ?_)
        rw [nI_1]
        refine ih (b + 1) _ (by omega) (by omega) ⟨fun k x y => by rw [tms_ne x, m9 k y]; exact s1 k x y, ?_, fun j hj => ?_⟩
        · rw [tms_ne (by omega), x9, s2]
          rfl
        · rw [tms_eq]
          by_cases e : j = 3 * a + b
          · rw [e, upd_at, hv, s2]
            rfl
          · rw [upd_ne e, m9 _ q.2]
            exact s3 j (by omega)
      refine ⟨fun c0 => e_some hk hn4 (by omega) hc (fun μ9 f9 m9 x9 => key _ μ9 m9 ?_ ?_), fun c0 => e_one hk hn4 (by omega) (fun μ9 f9 m9 x9 => key _ μ9 m9 ?_ ?_)⟩
      · rw [x9, CS, if_neg c0]
      · rw [CS, if_neg c0]
      · rw [x9, CS, if_pos c0]
      · rw [CS, if_pos c0]
  have L1 : ∀ (nf a : Nat) (μ4 : TMem), N - a < nf → a ≤ N → SCF N ch seed k0 μ μ4 (3 * a) → wpl_X2_sowArrows_2 k0 ch Q nf (nI a) μ4 := by
    intro nf
    induction nf with
    | zero => intro a μ4 hk; exact absurd hk (Nat.not_lt_zero _)
    | succ nf ih =>
      intro a μ4 hk1 ha hS
      have hn4 : μ4 k0 1 = nI N := by rw [hS.1 k0 (by omega) q.1]; exact hn
      refine ⟨fun q9 => ?_, fun q9 => ?_⟩
      · rw [hn4, nI_leI (by omega) (by omega)] at q9
        rw [show a = N by omega] at hS
        exact h μ4 hS
      rw [hn4, nI_leI (by omega) (by omega)] at q9
      have g := L2 a (fun μ22 => wpl_X2_sowArrows_2 k0 ch Q nf (nI a + (1 : Int32)) μ22) (by omega) (fun μ9 h9 => by rw [nI_1]; exact ih (a + 1) μ9 (by omega) (by omega) h9) 4 0 μ4 (by omega) (by omega) hS
      rw [nI_0] at g
      exact ⟨_, g⟩
  have g := L1 (N + 1) 0 μ (by omega) (Nat.zero_le _) ⟨fun _ _ _ => rfl, hs, fun j hj => absurd hj (Nat.not_lt_zero _)⟩
  rw [nI_0] at g
  exact ⟨_, g⟩
/-- goals drawn: (goals, number) -/
def GSg (x : Int32) : Nat → Int32 × Int32
  | 0 => (0, x)
  | i + 1 => (if md (dr (GSg x i).2 / (64 : Int32)) (2 : Int32) = 0 then (GSg x i).1 ||| ((1 : Int32) <<< (nI i &&& 31)) else (GSg x i).1, dr (GSg x i).2)
theorem e_goalsF {x : Int32} {Q : TMem → Prop} (hk : kd k0 = 2) (hn : μ k0 1 = nI N) (hN7 : N ≤ 7) (hs : μ 14 0 = x) (hg : μ k0 2 = 0) (h : ∀ μ9 : TMem, μ9 k0 1 = nI N → μ9 k0 2 = (GSg x N).1 → μ9 k0 3 = μ k0 3 → (∀ k, k ≠ k0 → k ≠ 14 → μ9 k = μ k) → Q μ9) : wp_X2_sowGoals k0 μ Q := by
  have q := k14 hk
  have L1 : ∀ (nf a : Nat) (μ3 : TMem), N - a < nf → a ≤ N → μ3 k0 1 = nI N → μ3 k0 2 = (GSg x a).1 → μ3 k0 3 = μ k0 3 → μ3 14 0 = (GSg x a).2 → (∀ k, k ≠ k0 → k ≠ 14 → μ3 k = μ k) → wpl_X2_sowGoals_2 k0 Q nf (nI a) μ3 := by
    intro nf
    induction nf with
    | zero => intro a μ3 hk; exact absurd hk (Nat.not_lt_zero _)
    | succ nf ih =>
      intro a μ3 hk1 ha m1 m2 m3 m14 mf
      refine ⟨fun q9 => ?_, fun q9 => ?_⟩
      · rw [m1, nI_leI (by omega) (by omega)] at q9
        rw [show a = N by omega] at m2
        exact h μ3 m1 m2 m3 mf
      rw [m1, nI_leI (by omega) (by omega)] at q9
      refine e_draw (fun μ5 f5 k5 x5 => ?_)
      have e5 : μ5 k0 = μ3 k0 := k5 k0 q.1
      rw [m14] at x5 ⊢
      refine ⟨fun z => ?_, fun z => ?_⟩
      · have z' : ¬ md (dr (GSg x a).2 / (64 : Int32)) (2 : Int32) = 0 := z
        rw [nI_1]
        refine ih (a + 1) μ5 (by omega) (by omega) (by rw [e5]; exact m1) (by rw [e5, m2, GSg, if_neg z']) (by rw [e5]; exact m3) (by rw [x5, GSg]) (fun k y1 y2 => by rw [k5 k y2]; exact mf k y1 y2)
      · have z' : md (dr (GSg x a).2 / (64 : Int32)) (2 : Int32) = 0 := z
        rw [nI_1]
        refine ih (a + 1) _ (by omega) (by omega) (by simp [tms_ix, e5, m1]) ?_ (by simp [tms_ix, e5, m3]) (by rw [tms_ne (by omega), x5, GSg]) (fun k y1 y2 => by rw [tms_ne y1, k5 k y2]; exact mf k y1 y2)
        rw [tms_eq, upd_at, e5, m2, GSg, if_pos z']
  have g := L1 (N + 1) 0 μ (by omega) (Nat.zero_le _) hn (by rw [hg]; rfl) rfl (by rw [hs]; rfl) (fun _ _ _ => rfl)
  rw [nI_0] at g
  exact ⟨_, g⟩
/-- a machine sown -/
def aS (seed : Int32) (N : Nat) (ch : Int32) : AM := (N, 1, (GSg (XS (nI N) ch seed (3 * N)) N).1, fun j => if j < 3 * N then CE (nI N) ch seed j else 0)
theorem ee_sow {Q : Int32 → TMem → Prop} (h : CSt μ S a r k) (hv : AVs S) (hok : ∀ m n, m < 4 → a1 = nI m → a3 = nI n → 1 ≤ n → n ≤ 7 → IN a2 0 65535 → IN a4 0 6 → ∀ μ9, CSt μ9 (sUp S m (aS a2 n a4)) (a + 1) r k → Q (AC (aS a2 n a4)) μ9) (h1 : ¬ M1 a1 → X "java/lang/IndexOutOfBoundsException" μ) (h2 : M1 a1 → ¬ (IN a2 0 65535 ∧ IN a3 1 7 ∧ IN a4 0 6) → X "java/lang/IllegalArgumentException" μ) : wp_X9_sow μ a1 a2 a3 a4 Q X := by
  refine e_mach (fun m hm em => ?_) h1
  have hM1 : M1 a1 := em ▸ M1_nI hm
  refine e_rng (fun y2 => e_rng (fun y3 => e_rng (fun y4 => ?_) (fun z => h2 hM1 (fun w => z w.2.2))) (fun z => h2 hM1 (fun w => z w.2.1))) (fun z => h2 hM1 (fun w => z w.1))
  obtain ⟨N, eN, n1, n7⟩ := IN_ex y3 (by decide)
  have n1' : (1 : Int) ≤ N := n1
  have n7' : (N : Int) ≤ 7 := n7
  have hk := kdm hm
  have q := k14 hk
  have t1 := tlm hm
  have hz : ∀ j, (tms μ 14 0 a2) j = if j = 14 then upd (μ 14) 0 a2 else μ j := fun j => by
    by_cases e : j = 14
    · rw [if_pos e, e, tms_eq]
    · rw [if_neg e, tms_ne e]
  rw [eN]
  show wp_X2_clear (2 + 2 * m) (tms μ 14 0 a2) (nI N) _
  refine e_clearA hk (by omega) (by omega) (fun μ7 h7 f7 => ?_)
  obtain ⟨c1, c2, c3, c4⟩ := h7
  have x7 : μ7 14 0 = a2 := by rw [f7 14 (by omega) (by omega), tms_eq, upd_at]
  refine e_arrowsF (N := N) (seed := a2) hk c1 (by omega) (by omega) (by omega) y4 x7 (fun μ8 s8 => ?_)
  obtain ⟨s1, s2, s3⟩ := s8
  have e8 : μ8 (2 + 2 * m) = μ7 (2 + 2 * m) := s1 _ (by omega) q.1
  refine e_goalsF (N := N) (x := XS (nI N) a4 a2 (3 * N)) hk (by rw [e8]; exact c1) (by omega) s2 (by rw [e8]; exact c3) (fun μ9 g1 g2 g3 gf => ?_)
  have hM9 : HM μ9 (2 + 2 * m) (aS a2 N a4) := ⟨g1, by rw [g3, e8]; exact c2, g2, fun j hj => by
    have hj' : j < 3 * N := hj
    rw [gf _ (by omega) q.2, s3 j hj']
    show _ = if j < 3 * N then _ else _
    rw [if_pos hj']⟩
  refine e_countA hM9.1 (show N ≤ 32 by omega) (show 3 * N ≤ _ by omega) hM9.2.2.2 ?_
  refine hok m N hm em eN (by omega) (by omega) y2 y4 _ (h.act hM9 ?_ (fun j x1 x2 x3 x4 => ?_) (fun g i => ?_))
  · rw [gf 0 (by omega) (by omega), s1 0 (by omega) (by omega), f7 0 (by omega) (by omega), tms_ne (by decide)]
  · rw [gf j x3 (by omega), s1 j x4 (by omega), f7 j x3 x4, tms_ne (by omega)]
  · rw [gf 43 (by omega) (by omega), s1 43 (by omega) (by omega), f7 43 (by omega) (by omega), tms_ne (by decide)]
    exact g i
end SAE
end
/-! part 9saf.ref -/
section
section SRF
variable {ν ν9 : TMem} {S : Nat → AM} {a r k t : Int32} {a1 a2 a3 a4 a5 : Int32} {Q : Int32 → TMem → Prop} {Qi : Int32 → Prop} {m : Nat} {A : AM}
/-- the reference's row m holds a machine -/
def HR (ν : TMem) (m : Nat) (A : AM) : Prop := ν 1 m = nI A.1 ∧ ν 2 m = A.2.1 ∧ ν 3 m = A.2.2.1 ∧ ∀ j, j < 21 → ν 4 (21 * m + j) = A.2.2.2 j
def RSt (ν : TMem) (S : Nat → AM) (a r k t : Int32) : Prop := (∀ m, m < 4 → HR ν m (S m)) ∧ ν 0 4 = a ∧ ν 0 5 = r ∧ ν 0 6 = k ∧ ν 0 7 = t
def RF (m : Nat) (ν ν9 : TMem) : Prop := ν9 0 = ν 0 ∧ (∀ i, i ≠ m → ν9 1 i = ν 1 i ∧ ν9 2 i = ν 2 i ∧ ν9 3 i = ν 3 i) ∧ ∀ p, (p < 21 * m ∨ 21 * m + 21 ≤ p) → ν9 4 p = ν 4 p
theorem RSt.thr (h : RSt ν S a r k t) (v : Int32) : RSt (tms ν 0 7 v) S a r k v := by
  obtain ⟨h1, h2, h3, h4, h5⟩ := h
  refine ⟨fun i hi => ?_, by simp [tms_ix, h2], by simp [tms_ix, h3], by simp [tms_ix, h4], by simp [tms_ix]⟩
  obtain ⟨g1, g2, g3, g4⟩ := h1 i hi
  exact ⟨by rw [tms_ne (by decide)]; exact g1, by rw [tms_ne (by decide)]; exact g2, by rw [tms_ne (by decide)]; exact g3, fun j hj => by rw [tms_ne (by decide)]; exact g4 j hj⟩
theorem RSt.act (h : RSt ν S a r k t) (hR : HR ν9 m A) (hF : RF m ν ν9) : RSt (tms ν9 0 4 ((ν9 0 4) + (1 : Int32))) (sUp S m A) (a + 1) r k t := by
  obtain ⟨h1, h2, h3, h4, h5⟩ := h
  obtain ⟨f0, f1, f2⟩ := hF
  refine ⟨fun i hi => ?_, by simp [tms_ix, f0, h2], by simp [tms_ix, f0, h3], by simp [tms_ix, f0, h4], by simp [tms_ix, f0, h5]⟩
  by_cases e : i = m
  · subst e
    rw [sUp_at]
    obtain ⟨g1, g2, g3, g4⟩ := hR
    exact ⟨by rw [tms_ne (by decide)]; exact g1, by rw [tms_ne (by decide)]; exact g2, by rw [tms_ne (by decide)]; exact g3, fun j hj => by rw [tms_ne (by decide)]; exact g4 j hj⟩
  · rw [sUp_ne e]
    obtain ⟨g1, g2, g3, g4⟩ := h1 i hi
    obtain ⟨e1, e2, e3⟩ := f1 i e
    exact ⟨by rw [tms_ne (by decide), e1]; exact g1, by rw [tms_ne (by decide), e2]; exact g2, by rw [tms_ne (by decide), e3]; exact g3, fun j hj => by rw [tms_ne (by decide), f2 _ (by omega)]; exact g4 j hj⟩
theorem RSt.ref (h : RSt ν S a r k t) : RSt (tms ν 0 5 ((ν 0 5) + (1 : Int32))) S a (r + 1) k t := by
  obtain ⟨h1, h2, h3, h4, h5⟩ := h
  refine ⟨fun i hi => ?_, by simp [tms_ix, h2], by simp [tms_ix, h3], by simp [tms_ix, h4], by simp [tms_ix, h5]⟩
  obtain ⟨g1, g2, g3, g4⟩ := h1 i hi
  exact ⟨by rw [tms_ne (by decide)]; exact g1, by rw [tms_ne (by decide)]; exact g2, by rw [tms_ne (by decide)]; exact g3, fun j hj => by rw [tms_ne (by decide)]; exact g4 j hj⟩
theorem rr_in {x lo hi : Int32} (h1 : IN x lo.toInt hi.toInt → Qi 1) (h0 : ¬ IN x lo.toInt hi.toInt → Qi 0) : wp_X11_isIn x lo hi Qi := r_isIn h1 h0
theorem rr_one {x : Int32} (h1 : ∀ m, m < 4 → x = nI m → Qi 1) (h0 : ¬ M1 x → Qi 0) : wp_X11_isOne x Qi := by
  refine rr_in (fun z => ⟨Or.inr rfl, ?_⟩) (fun z => ⟨Or.inl rfl, h0 z⟩)
  obtain ⟨m, e, h2, h3⟩ := IN_ex z (by decide)
  have h3' : (m : Int) ≤ 3 := h3
  exact h1 m (by omega) e
theorem rr_two {x y : Int32} {B : Int32 → Prop} (h1 : ∀ m m', m < 4 → m' < 4 → x = nI m → y = nI m' → B 1) (h0 : ¬ ONE2 x y → B 0) : wp_X11_isOne x (fun r1 => ∀ J2 : Int32 → Prop, (∀ j3 : Int32, B j3 → J2 j3) → ((r1 = 0 → J2 0) ∧ (¬ r1 = 0 → wp_X11_isOne y (fun r31 => (r31 = 0 → J2 0) ∧ (¬ r31 = 0 → J2 1))))) := by
  refine rr_one (fun m hm em J hJ => ⟨fun z => absurd z (by decide), fun _ => ?_⟩) (fun z J hJ => ⟨fun _ => hJ _ (h0 (fun w => z w.1)), fun w => absurd rfl w⟩)
  exact rr_one (fun m' hm' em' => ⟨fun z => absurd z (by decide), fun _ => hJ _ (h1 m m' hm hm' em em')⟩) (fun z => ⟨fun _ => hJ _ (h0 (fun w => z w.2)), fun w => absurd rfl w⟩)
theorem th_ok (h : Q 0 (tms ν 0 7 0)) : wp_X11_isThrown ν 1 1 Q := r_thrown (fun t ht => by
  rw [if_neg (by decide), if_neg (by decide)] at ht
  rw [ht]
  exact h)
theorem th_1 {y : Int32} (h : Q 1 (tms ν 0 7 1)) : wp_X11_isThrown ν 0 y Q := r_thrown (fun t ht => by
  rw [if_pos rfl] at ht
  rw [ht]
  exact h)
theorem th_2 (h : Q 1 (tms ν 0 7 2)) : wp_X11_isThrown ν 1 0 Q := r_thrown (fun t ht => by
  rw [if_neg (by decide), if_pos rfl] at ht
  rw [ht]
  exact h)
theorem s_key (m f s : Nat) : ((nI m * (7 : Int32)) + nI f) * (3 : Int32) + nI s = nI (21 * m + 3 * f + s) := by
  rw [show (7 : Int32) = nI 7 from rfl, show (3 : Int32) = nI 3 from rfl, s_mul, nI_add, s_mul, nI_add]
  congr 1
  omega
theorem rr_key {f s : Nat} (h : Qi (nI (21 * m + 3 * f + s))) : wp_X11_key (nI m) (nI f) (nI s) Qi := by
  unfold wp_X11_key
  rw [s_key]
  exact h
theorem rr_key0 (h : Qi (nI (21 * m))) : wp_X11_key (nI m) 0 0 Qi := rr_key (f := 0) (s := 0) h
theorem rr_st {s : Int32} {n : Nat} (hm : m < 4) (hn : ν 1 m = nI n) (n1 : 1 ≤ n) (n7 : n ≤ 7) (h1 : ∀ f, f < n → s = nI f → Qi 1) (h0 : ¬ STn s n → Qi 0) : wp_X11_isState ν (nI m) s Qi := by
  refine ⟨s_in hm (by omega), ?_⟩
  rw [nI_clamp (by omega), hn]
  have e : nI n - (1 : Int32) = nI (n - 1) := by rw [show (1 : Int32) = nI 1 from rfl, s_sub (by omega) (by omega)]
  rw [e]
  have e2 : (nI (n - 1)).toInt = ((n - 1 : Nat) : Int) := nI_toInt (by omega)
  refine rr_in (fun z => ⟨Or.inr rfl, ?_⟩) (fun z => ⟨Or.inl rfl, h0 (fun w => z ⟨w.1, ?_⟩)⟩)
  · obtain ⟨f, ef, f1, f2⟩ := IN_ex z (by decide)
    rw [e2] at f2
    exact h1 f (by omega) ef
  · rw [e2]
    have := w.2
    omega
theorem rr_arrowsOf (hm : m < 4) (hR : HR ν m A) (hv : AV A) (h : Qi (AC A)) : wp_X11_arrowsOf ν (nI m) Qi := by
  have e21 : ACn A.2.2.2 21 = AC A := ACn_zero hv.2.2.2.2.2 21 (by have := hv.2.1; omega)
  have L : ∀ (nf i : Nat), 21 - i < nf → i ≤ 21 → wpl_X11_arrowsOf_9 ν (nI m) Qi nf (nI (21 * m + i)) (ACn A.2.2.2 i) := by
    intro nf
    induction nf with
    | zero => intro i hk; exact absurd hk (Nat.not_lt_zero _)
    | succ nf ih =>
      intro i hk hi
      refine rr_key0 ?_
      rw [show (21 : Int32) = nI 21 from rfl, nI_add]
      refine ⟨fun c => ?_, fun c => ⟨s_in (show _ < 84 by rw [nI_leI (by omega) (by omega)] at c; omega) (by omega), ?_⟩⟩
      · rw [nI_leI (by omega) (by omega)] at c
        rw [show i = 21 by omega, e21]
        exact h
      · rw [nI_leI (by omega) (by omega)] at c
        rw [nI_clamp (by omega), hR.2.2.2 i (by omega)]
        refine pop_w ?_
        rw [nI_1, Nat.add_assoc]
        exact ih (i + 1) (by omega) (by omega)
  refine rr_key0 ⟨22, ?_⟩
  exact L 22 0 (by omega) (by omega)
/-- a row's cells ahead of p are written -/
def RW (m : Nat) (νs : TMem) (v : Nat → Int32) (p : Nat) (ν1 : TMem) : Prop := (∀ j, j < p → ν1 4 (21 * m + j) = v j) ∧ (∀ q, q < 21 * m ∨ 21 * m + p ≤ q → ν1 4 q = νs 4 q) ∧ ∀ j, j ≠ 4 → ν1 j = νs j
variable {νs : TMem} {v : Nat → Int32}
theorem RW.start : RW m νs v 0 νs := ⟨fun j hj => absurd hj (Nat.not_lt_zero _), fun _ _ => rfl, fun _ _ => rfl⟩
theorem RW.step {p : Nat} {ν1 : TMem} (h : RW m νs v p ν1) : RW m νs v (p + 1) (tms ν1 4 (21 * m + p) (v p)) := by
  refine ⟨fun j hj => ?_, fun q hq => ?_, fun j hj => by rw [tms_ne hj]; exact h.2.2 j hj⟩
  · rw [tms_eq]
    by_cases e : j = p
    · rw [e, upd_at]
    · rw [upd_ne (by omega)]
      exact h.1 j (by omega)
  · rw [tms_eq, upd_ne (by omega)]
    exact h.2.1 q (by omega)
theorem rr_clear {n : Nat} {Qv : TMem → Prop} (hm : m < 4) (h : ∀ ν9, HR ν9 m (aC n) → RF m ν ν9 → Qv ν9) : wp_X11_clear ν (nI m) (nI n) Qv := by
  have im : (nI m).toNatClampNeg = m := nI_clamp (by omega)
  generalize hs : tms (tms (tms ν 1 m (nI n)) 2 m (1 : Int32)) 3 m (0 : Int32) = νs
  have fin : ∀ ν1, RW m νs (fun _ => 0) 21 ν1 → Qv ν1 := fun ν1 w => by
    obtain ⟨w1, w2, w3⟩ := w
    refine h ν1 ⟨?_, ?_, ?_, fun j hj => w1 j hj⟩ ⟨?_, fun i hi => ⟨?_, ?_, ?_⟩, fun p hp => ?_⟩
    · rw [w3 1 (by decide), ← hs]; simp [tms_ix, aC]
    · rw [w3 2 (by decide), ← hs]; simp [tms_ix, aC]
    · rw [w3 3 (by decide), ← hs]; simp [tms_ix, aC]
    · rw [w3 0 (by decide), ← hs, tms_ne (by decide), tms_ne (by decide), tms_ne (by decide)]
    · rw [w3 1 (by decide), ← hs]; simp [tms_ix, hi]
    · rw [w3 2 (by decide), ← hs]; simp [tms_ix, hi]
    · rw [w3 3 (by decide), ← hs]; simp [tms_ix, hi]
    · rw [w2 p (by omega), ← hs, tms_ne (by decide), tms_ne (by decide), tms_ne (by decide)]
  have L : ∀ (nf i : Nat) (ν1 : TMem), 21 - i < nf → i ≤ 21 → RW m νs (fun _ => 0) i ν1 → wpl_X11_clear_23 (nI m) Qv nf (nI i) ν1 := by
    intro nf
    induction nf with
    | zero => intro i ν1 hk; exact absurd hk (Nat.not_lt_zero _)
    | succ nf ih =>
      intro i ν1 hk hi hw
      refine ⟨fun c => ?_, fun c => rr_key0 ?_⟩
      · rw [show (21 : Int32) = nI 21 from rfl, nI_leI (by omega) (by omega)] at c
        rw [show i = 21 by omega] at hw
        exact fin ν1 hw
      rw [show (21 : Int32) = nI 21 from rfl, nI_leI (by omega) (by omega)] at c
      rw [nI_add, nI_clamp (by omega), nI_1]
      exact ⟨s_in (show _ < 84 by omega) (by omega), ih (i + 1) _ (by omega) (by omega) hw.step⟩
  have g := L 22 0 νs (by omega) (by omega) RW.start
  rw [nI_0, ← hs] at g
  refine ⟨s_in hm (by omega), s_in hm (by omega), s_in hm (by omega), 22, ?_⟩
  rw [im]
  exact g
theorem rr_begin (h : RSt ν S a r k t) (hv : AVs S) (hok : ∀ m n, m < 4 → a1 = nI m → a2 = nI n → 1 ≤ n → n ≤ 7 → ∀ ν9, RSt ν9 (sUp S m (aC n)) (a + 1) r k 0 → Q (AC (S m)) ν9) (h1 : ¬ M1 a1 → ∀ b ν9, RSt ν9 S a r k 1 → Q b ν9) (h2 : M1 a1 → ¬ IN a2 1 7 → ∀ b ν9, RSt ν9 S a r k 2 → Q b ν9) : wp_X11_begin ν a1 a2 Q := by
  refine rr_one (fun m hm em => rr_in (fun z => th_ok ⟨fun _ => ?_, fun q => absurd rfl q⟩) (fun z => th_2 ⟨fun q => absurd q (by decide), fun _ => h2 (em ▸ M1_nI hm) z _ _ (h.thr 2)⟩)) (fun z => rr_in (fun _ => th_1 ⟨fun q => absurd q (by decide), fun _ => h1 z _ _ (h.thr 1)⟩) (fun _ => th_1 ⟨fun q => absurd q (by decide), fun _ => h1 z _ _ (h.thr 1)⟩))
  obtain ⟨n, en, n1, n7⟩ := IN_ex z (by decide)
  have n1' : (1 : Int) ≤ n := n1
  have n7' : (n : Int) ≤ 7 := n7
  have h0 := h.thr 0
  rw [em, en]
  exact rr_arrowsOf hm (h0.1 m hm) (hv m hm) (rr_clear hm (fun ν9 hR hF => hok m n hm em en (by omega) (by omega) _ (h0.act hR hF)))
theorem rr_noArrow (h : RSt ν S a r k t) (hv : AVs S) (hok : ∀ m f s u, ARG S a1 a2 a3 a4 m f s u → Q 0 (tms ν 0 7 0)) (h1 : ¬ ARS S a1 a2 a4 → Q 1 (tms ν 0 7 1)) (h2 : ARS S a1 a2 a4 → ¬ IN a3 0 2 → Q 1 (tms ν 0 7 2)) : wp_X11_isNoArrow ν a1 a2 a3 a4 Q := by
  have bad : ¬ ARS S a1 a2 a4 → ∀ J : Int32 → Prop, (∀ (j3 : Int32), (wp_X11_isIn a3 (0 : Int32) (2 : Int32) (fun (r4 : Int32) => wp_X11_isThrown ν j3 r4 (fun (r6 : Int32) (μ5 : TMem) => isB r6 ∧ (Q r6 μ5)))) → J j3) → J 0 := fun z J hJ => hJ 0 (rr_in (fun _ => th_1 ⟨Or.inr rfl, h1 z⟩) (fun _ => th_1 ⟨Or.inr rfl, h1 z⟩))
  refine rr_one (fun m hm em J hJ => ⟨fun z => absurd z (by decide), fun _ => ?_⟩) (fun z J hJ => ⟨fun _ => bad (fun ⟨m, hm, e, _⟩ => z (e ▸ M1_nI hm)) J hJ, fun w => absurd rfl w⟩)
  have hR := h.1 m hm
  have v1 := (hv m hm).1
  have v7 := (hv m hm).2.1
  have hx : ∀ (P : Prop), (¬ STn a2 (S m).1 ∨ ¬ STn a4 (S m).1) → ¬ ARS S a1 a2 a4 := fun _ w ⟨m', hm', e', e2, e4⟩ => by
    rw [nI_inj4 hm hm' (em.symm.trans e')] at w
    exact w.elim (fun q => q e2) (fun q => q e4)
  subst em
  refine rr_st hm hR.1 v1 v7 (fun f hf ef => ⟨fun z => absurd z (by decide), fun _ => ?_⟩) (fun z => ⟨fun _ => bad (hx True (Or.inl z)) J hJ, fun w => absurd rfl w⟩)
  refine rr_st hm hR.1 v1 v7 (fun u hu eu => ⟨fun z => absurd z (by decide), fun _ => ?_⟩) (fun z => ⟨fun _ => bad (hx True (Or.inr z)) J hJ, fun w => absurd rfl w⟩)
  refine hJ 1 (rr_in (fun z => th_ok ⟨Or.inl rfl, ?_⟩) (fun z => th_2 ⟨Or.inr rfl, h2 ⟨m, hm, rfl, ef ▸ STn_nI hf (by omega), eu ▸ STn_nI hu (by omega)⟩ z⟩))
  obtain ⟨s, es, s1, s2⟩ := IN_ex z (by decide)
  have s2' : (s : Int) ≤ 2 := s2
  exact hok m f s u ⟨hm, rfl, ef, eu, es, hf, hu, by omega⟩
theorem HR.put {i : Nat} {x : Int32} (h : HR ν m A) (hi : i < 21) : HR (tms ν 4 (21 * m + i) x) m (aI A i x) := by
  obtain ⟨h1, h2, h3, h4⟩ := h
  refine ⟨by rw [tms_ne (by decide)]; exact h1, by rw [tms_ne (by decide)]; exact h2, by rw [tms_ne (by decide)]; exact h3, fun j hj => ?_⟩
  rw [tms_eq]
  show _ = if j = i then x else A.2.2.2 j
  by_cases e : j = i
  · rw [if_pos e, e, upd_at]
  · rw [if_neg e, upd_ne (by omega)]
    exact h4 j hj
theorem RF.put {i : Nat} {x : Int32} (hi : i < 21) : RF m ν (tms ν 4 (21 * m + i) x) := ⟨tms_ne (by decide), fun j _ => ⟨by rw [tms_ne (by decide)], by rw [tms_ne (by decide)], by rw [tms_ne (by decide)]⟩, fun p hp => by rw [tms_eq, upd_ne (by omega)]⟩
theorem rr_arrow (h : RSt ν S a r k t) (hv : AVs S) (hok : ∀ m f s u, ARG S a1 a2 a3 a4 m f s u → ∀ ν9, RSt ν9 (sUp S m (aI (S m) (3 * f + s) (wW ((S m).2.2.2 (3 * f + s)) u a5))) (a + 1) r k 0 → Q (if wW ((S m).2.2.2 (3 * f + s)) u a5 = (S m).2.2.2 (3 * f + s) then 0 else 1) ν9) (h1 : ¬ ARS S a1 a2 a4 → ∀ b ν9, RSt ν9 S a r k 1 → Q b ν9) (h2 : ARS S a1 a2 a4 → ¬ IN a3 0 2 → ∀ b ν9, RSt ν9 S a r k 2 → Q b ν9) : wp_X11_arrow ν a1 a2 a3 a4 a5 Q := by
  refine rr_noArrow h hv (fun m f s u hA => ⟨fun _ => ?_, fun q => absurd rfl q⟩) (fun z => ⟨fun q => absurd q (by decide), fun _ => h1 z _ _ (h.thr 1)⟩) (fun z w => ⟨fun q => absurd q (by decide), fun _ => h2 z w _ _ (h.thr 2)⟩)
  obtain ⟨hm, em, ef, eu, es, hf, hu, hs⟩ := hA
  have v7 := (hv m hm).2.1
  have h0 := h.thr 0
  have hR := h0.1 m hm
  have g := hok m f s u ⟨hm, em, ef, eu, es, hf, hu, hs⟩ _ (h0.act (m := m) (hR.put (i := 3 * f + s) (by omega)) (RF.put (by omega)))
  rw [em, ef, es, eu]
  refine rr_key ?_
  have ip : 21 * m + 3 * f + s = 21 * m + (3 * f + s) := by omega
  have hin : vp_in (nI (21 * m + 3 * f + s)) (ml 4) := s_in (show _ < 84 by omega) (by omega)
  have ic : (nI (21 * m + 3 * f + s)).toNatClampNeg = 21 * m + (3 * f + s) := by rw [nI_clamp (by omega), ip]
  have ec : (tms ν 0 7 0) 4 (21 * m + (3 * f + s)) = (S m).2.2.2 (3 * f + s) := hR.2.2.2 _ (by omega)
  refine ⟨hin, fun J hJ => ?_⟩
  have key : ∀ y, y = wW ((S m).2.2.2 (3 * f + s)) u a5 → J y := fun y ey => hJ y ⟨hin, hin, by
    rw [ic, ec, tms_eq, upd_at, ey]
    refine ⟨fun z => ?_, fun z => ?_⟩
    · rw [if_neg (fun q => z q.symm)] at g; exact g
    · rw [if_pos z.symm] at g; exact g⟩
  rw [ic, ec]
  exact ⟨fun z => key _ (by rw [wW, if_pos z]), fun z => key _ (by rw [wW, if_neg z])⟩
theorem rr_lead (h : RSt ν S a r k t) (hv : AVs S) (hok : ∀ m f s u, ARG S a1 a2 a3 a4 m f s u → ∀ ν9, RSt ν9 (sUp S m (aI (S m) (3 * f + s) ((1 : Int32) <<< (nI u &&& 31)))) (a + 1) r k 0 → Q (pop ((S m).2.2.2 (3 * f + s))) ν9) (h1 : ¬ ARS S a1 a2 a4 → ∀ b ν9, RSt ν9 S a r k 1 → Q b ν9) (h2 : ARS S a1 a2 a4 → ¬ IN a3 0 2 → ∀ b ν9, RSt ν9 S a r k 2 → Q b ν9) : wp_X11_lead ν a1 a2 a3 a4 Q := by
  refine rr_noArrow h hv (fun m f s u hA => ⟨fun _ => ?_, fun q => absurd rfl q⟩) (fun z => ⟨fun q => absurd q (by decide), fun _ => h1 z _ _ (h.thr 1)⟩) (fun z w => ⟨fun q => absurd q (by decide), fun _ => h2 z w _ _ (h.thr 2)⟩)
  obtain ⟨hm, em, ef, eu, es, hf, hu, hs⟩ := hA
  have v7 := (hv m hm).2.1
  have h0 := h.thr 0
  have hR := h0.1 m hm
  have g := hok m f s u ⟨hm, em, ef, eu, es, hf, hu, hs⟩ _ (h0.act (m := m) (hR.put (i := 3 * f + s) (by omega)) (RF.put (by omega)))
  rw [em, ef, es, eu]
  refine rr_key ?_
  have ip : 21 * m + 3 * f + s = 21 * m + (3 * f + s) := by omega
  have hin : vp_in (nI (21 * m + 3 * f + s)) (ml 4) := s_in (show _ < 84 by omega) (by omega)
  have ic : (nI (21 * m + 3 * f + s)).toNatClampNeg = 21 * m + (3 * f + s) := by rw [nI_clamp (by omega), ip]
  have ec : (tms ν 0 7 0) 4 (21 * m + (3 * f + s)) = (S m).2.2.2 (3 * f + s) := hR.2.2.2 _ (by omega)
  refine ⟨hin, hin, ?_⟩
  rw [ic, ec]
  exact pop_w g
theorem HR.set2 {x : Int32} (h : HR ν m A) : HR (tms ν 2 m x) m (A.1, x, A.2.2) ∧ RF m ν (tms ν 2 m x) := by
  obtain ⟨h1, h2, h3, h4⟩ := h
  exact ⟨⟨by rw [tms_ne (by decide)]; exact h1, by simp [tms_ix], by rw [tms_ne (by decide)]; exact h3, fun j hj => by rw [tms_ne (by decide)]; exact h4 j hj⟩, tms_ne (by decide), fun i hi => ⟨by rw [tms_ne (by decide)], by simp [tms_ix, hi], by rw [tms_ne (by decide)]⟩, fun p _ => by rw [tms_ne (by decide)]⟩
theorem HR.set3 {x : Int32} (h : HR ν m A) : HR (tms ν 3 m x) m (A.1, A.2.1, x, A.2.2.2) ∧ RF m ν (tms ν 3 m x) := by
  obtain ⟨h1, h2, h3, h4⟩ := h
  exact ⟨⟨by rw [tms_ne (by decide)]; exact h1, by rw [tms_ne (by decide)]; exact h2, by simp [tms_ix], fun j hj => by rw [tms_ne (by decide)]; exact h4 j hj⟩, tms_ne (by decide), fun i hi => ⟨by rw [tms_ne (by decide)], by rw [tms_ne (by decide)], by simp [tms_ix, hi]⟩, fun p _ => by rw [tms_ne (by decide)]⟩
theorem rr_mark (h : RSt ν S a r k t) (hv : AVs S) (hok : ∀ m u, m < 4 → a1 = nI m → a2 = nI u → u < (S m).1 → ∀ ν9, RSt ν9 (sUp S m (aK (S m) a3 (wW (aKv (S m) a3) u a4))) (a + 1) r k 0 → Q (if wW (aKv (S m) a3) u a4 = aKv (S m) a3 then 0 else 1) ν9) (h1 : ¬ (∃ m, m < 4 ∧ a1 = nI m ∧ STn a2 (S m).1) → ∀ b ν9, RSt ν9 S a r k 1 → Q b ν9) : wp_X11_mark ν a1 a2 a3 a4 Q := by
  refine rr_one (fun m hm em => ⟨fun z => absurd z (by decide), fun _ => ?_⟩) (fun z => ⟨fun _ => th_1 ⟨fun q => absurd q (by decide), fun _ => h1 (fun ⟨m, hm, e, _⟩ => z (e ▸ M1_nI hm)) _ _ (h.thr 1)⟩, fun w => absurd rfl w⟩)
  have v1 := (hv m hm).1
  have v7 := (hv m hm).2.1
  have hR0 := h.1 m hm
  have bad : ¬ STn a2 (S m).1 → ¬ (∃ m, m < 4 ∧ a1 = nI m ∧ STn a2 (S m).1) := fun z ⟨m', hm', e', e4⟩ => z (by rw [nI_inj4 hm hm' (em.symm.trans e')]; exact e4)
  have hok' := fun u => hok m u hm em
  subst em
  refine rr_st hm hR0.1 v1 v7 (fun u hu eu => ⟨fun z => absurd z (by decide), fun _ => th_ok ⟨fun _ => ?_, fun q => absurd rfl q⟩⟩) (fun z => ⟨fun _ => th_1 ⟨fun q => absurd q (by decide), fun _ => h1 (bad z) _ _ (h.thr 1)⟩, fun w => absurd rfl w⟩)
  have h0 := h.thr 0
  have hR := h0.1 m hm
  have i2 : vp_in (nI m) (ml 2) := s_in hm (by omega)
  have i3 : vp_in (nI m) (ml 3) := s_in hm (by omega)
  have im : (nI m).toNatClampNeg = m := nI_clamp (by omega)
  rw [im, eu]
  refine ⟨fun z => ⟨i2, ?_⟩, fun z => ⟨i3, ?_⟩⟩
  · have ev : aKv (S m) a3 = (S m).2.1 := by rw [aKv, if_pos z]
    have g := hok' u eu hu _ (h0.act (m := m) (A := aK (S m) a3 (wW (aKv (S m) a3) u a4)) (ν9 := tms (tms ν 0 7 0) 2 m (wW (S m).2.1 u a4)) (by rw [aK, if_pos z, ev]; exact hR.set2.1) hR.set2.2)
    rw [ev] at g
    rw [hR.2.1]
    refine ⟨fun w => ⟨i2, i2, ?_⟩, fun w => ⟨i2, i2, ?_⟩⟩
    · rw [wW, if_pos w] at g
      rw [tms_eq, upd_at]
      refine ⟨fun y => ?_, fun y => ?_⟩
      · rw [if_neg (fun q => y q.symm)] at g; exact g
      · rw [if_pos y.symm] at g; exact g
    · rw [wW, if_neg w] at g
      rw [tms_eq, upd_at]
      refine ⟨fun y => ?_, fun y => ?_⟩
      · rw [if_neg (fun q => y q.symm)] at g; exact g
      · rw [if_pos y.symm] at g; exact g
  · have ev : aKv (S m) a3 = (S m).2.2.1 := by rw [aKv, if_neg z]
    have g := hok' u eu hu _ (h0.act (m := m) (A := aK (S m) a3 (wW (aKv (S m) a3) u a4)) (ν9 := tms (tms ν 0 7 0) 3 m (wW (S m).2.2.1 u a4)) (by rw [aK, if_neg z, ev]; exact hR.set3.1) hR.set3.2)
    rw [ev] at g
    rw [hR.2.2.1]
    refine ⟨fun w => ⟨i3, i3, ?_⟩, fun w => ⟨i3, i3, ?_⟩⟩
    · rw [wW, if_pos w] at g
      rw [tms_eq, upd_at]
      refine ⟨fun y => ?_, fun y => ?_⟩
      · rw [if_neg (fun q => y q.symm)] at g; exact g
      · rw [if_pos y.symm] at g; exact g
    · rw [wW, if_neg w] at g
      rw [tms_eq, upd_at]
      refine ⟨fun y => ?_, fun y => ?_⟩
      · rw [if_neg (fun q => y q.symm)] at g; exact g
      · rw [if_pos y.symm] at g; exact g
end SRF
end
/-! part 9sag.ref2 -/
section
section SRG
variable {ν ν9 : TMem} {S : Nat → AM} {a r k t : Int32} {a1 a2 a3 a4 a5 : Int32} {Q : Int32 → TMem → Prop} {Qi : Int32 → Prop} {m m' : Nat} {A B : AM}
theorem aSm_sym (h : aSm A B) : aSm B A := ⟨h.1.symm, h.2.1.symm, h.2.2.1.symm, fun j hj => (h.2.2.2 j (by rw [h.1]; exact hj)).symm⟩
theorem aSm_21 (hA : AV A) (hB : AV B) : aSm A B ↔ (A.1 = B.1 ∧ A.2.1 = B.2.1 ∧ A.2.2.1 = B.2.2.1 ∧ ∀ j, j < 21 → A.2.2.2 j = B.2.2.2 j) := by
  have a7 := hA.2.1
  refine ⟨fun h => ⟨h.1, h.2.1, h.2.2.1, fun j hj => ?_⟩, fun h => ⟨h.1, h.2.1, h.2.2.1, fun j hj => h.2.2.2 j (by omega)⟩⟩
  by_cases e : j < 3 * A.1
  · exact h.2.2.2 j e
  · rw [hA.2.2.2.2.2 j (by omega), hB.2.2.2.2.2 j (by have := h.1; omega)]
theorem BV.sym {v : Int32} (h : BV v (aSm A B)) : BV v (aSm B A) := ⟨fun z => h.1 (aSm_sym z), fun z => h.2 (fun w => z (aSm_sym w))⟩
theorem rr_isSame (hm : m < 4) (hm' : m' < 4) (hA : HR ν m A) (hB : HR ν m' B) (vA : AV A) (vB : AV B) (h1 : aSm A B → Qi 1) (h0 : ¬ aSm A B → Qi 0) : wp_X11_isSame ν (nI m) (nI m') Qi := by
  obtain ⟨b1, b2, b3, b4⟩ := hA
  obtain ⟨d1, d2, d3, d4⟩ := hB
  have im : (nI m).toNatClampNeg = m := nI_clamp (by omega)
  have im' : (nI m').toNatClampNeg = m' := nI_clamp (by omega)
  have hin : vp_in (nI m) (ml 1) := s_in hm (by omega)
  have hin' : vp_in (nI m') (ml 1) := s_in hm' (by omega)
  have L : ∀ (nf i : Nat) (v : Int32), 21 - i < nf → i ≤ 21 → (v = 1 ∧ (A.1 = B.1 ∧ A.2.1 = B.2.1 ∧ A.2.2.1 = B.2.2.1 ∧ ∀ j, j < i → A.2.2.2 j = B.2.2.2 j) ∨ v = 0 ∧ ¬ aSm A B) → wpl_X11_isSame_54 ν (nI m) (nI m') Qi nf (nI i) v := by
    intro nf
    induction nf with
    | zero => intro i v hk; exact absurd hk (Nat.not_lt_zero _)
    | succ nf ih =>
      intro i v hk hi hv
      refine ⟨fun c => ?_, fun c => rr_key0 ?_⟩
      · rw [show (21 : Int32) = nI 21 from rfl, nI_leI (by omega) (by omega)] at c
        have e : i = 21 := by omega
        subst e
        rcases hv with ⟨rfl, hv⟩ | ⟨rfl, hv⟩
        · exact ⟨Or.inr rfl, h1 ((aSm_21 vA vB).mpr hv)⟩
        · exact ⟨Or.inl rfl, h0 hv⟩
      rw [show (21 : Int32) = nI 21 from rfl, nI_leI (by omega) (by omega)] at c
      rw [nI_add, nI_clamp (by omega)]
      refine ⟨s_in (show _ < 84 by omega) (by omega), rr_key0 ?_⟩
      rw [nI_add, nI_clamp (by omega), b4 i (by omega), d4 i (by omega), nI_1]
      refine ⟨s_in (show _ < 84 by omega) (by omega), fun z => ?_, fun z => ?_⟩
      · refine ih (i + 1) _ (by omega) (by omega) (Or.inr ⟨?_, fun w => z (((aSm_21 vA vB).mp w).2.2.2 i (by omega))⟩)
        rcases hv with ⟨rfl, _⟩ | ⟨rfl, _⟩ <;> decide
      · refine ih (i + 1) _ (by omega) (by omega) ?_
        rcases hv with ⟨rfl, hv⟩ | ⟨rfl, hv⟩
        · refine Or.inl ⟨by decide, hv.1, hv.2.1, hv.2.2.1, fun j hj => ?_⟩
          by_cases e : j = i
          · rw [e]; exact z
          · exact hv.2.2.2 j (by omega)
        · exact Or.inr ⟨by decide, hv⟩
  have go : ∀ v : Int32, (v = 1 ∧ (A.1 = B.1 ∧ A.2.1 = B.2.1 ∧ A.2.2.1 = B.2.2.1) ∨ v = 0 ∧ ¬ aSm A B) → ∃ n4x, wpl_X11_isSame_54 ν (nI m) (nI m') Qi n4x (0 : Int32) v := fun v hv => by
    have g := L 22 0 v (by omega) (by omega) (hv.imp (fun z => ⟨z.1, z.2.1, z.2.2.1, z.2.2.2, fun j hj => absurd hj (Nat.not_lt_zero _)⟩) (fun z => z))
    rw [nI_0] at g
    exact ⟨_, g⟩
  refine ⟨hin, hin', fun J hJ => ?_⟩
  rw [im, im', b1, d1, b2, d2, b3, d3]
  have a7 := vA.2.1
  have b7 := vB.2.1
  refine ⟨fun z => hJ 0 (go 0 (Or.inr ⟨rfl, fun w => z (by rw [w.1])⟩)), fun z => ⟨s_in hm (by omega), s_in hm' (by omega), fun z2 => hJ 0 (go 0 (Or.inr ⟨rfl, fun w => z2 w.2.1⟩)), fun z2 => ⟨s_in hm (by omega), s_in hm' (by omega), fun z3 => hJ 0 (go 0 (Or.inr ⟨rfl, fun w => z3 w.2.2.1⟩)), fun z3 => hJ 1 (go 1 (Or.inl ⟨rfl, (nI_eq (by omega) (by omega)).mp z, z2, z3⟩))⟩⟩⟩
theorem did2 {v w : Int32} {P : Prop} {ν8 : TMem} (hb : BV v P) (hw : P → w = 1) (hw0 : ¬ P → w = 0) (h : Q v (tms ν8 0 4 ((ν8 0 4) + (1 : Int32)))) : (w = 0 → wp_X11_did ν8 (1 : Int32) (fun r μ => Q r μ)) ∧ (¬ w = 0 → wp_X11_did ν8 (0 : Int32) (fun r μ => Q r μ)) := by
  by_cases p : P
  · rw [hw p]
    rw [hb.1 p] at h
    exact ⟨fun z => absurd z (by decide), fun _ => h⟩
  · rw [hw0 p]
    rw [hb.2 p] at h
    exact ⟨fun _ => h, fun z => absurd rfl z⟩
theorem rr_copy (h : RSt ν S a r k t) (hv : AVs S) (hok : ∀ m m', m < 4 → m' < 4 → a1 = nI m → a2 = nI m' → ∀ v, BV v (aSm (S m) (S m')) → ∀ ν9, RSt ν9 (sUp S m' (S m)) (a + 1) r k 0 → Q v ν9) (h1 : ¬ ONE2 a1 a2 → ∀ b ν9, RSt ν9 S a r k 1 → Q b ν9) : wp_X11_copy ν a1 a2 Q := by
  refine rr_two (fun m m' hm hm' em em' => th_ok ⟨fun _ => ?_, fun q => absurd rfl q⟩) (fun z => th_1 ⟨fun q => absurd q (by decide), fun _ => h1 z _ _ (h.thr 1)⟩)
  have h0 := h.thr 0
  have hR := h0.1 m hm
  have hR' := h0.1 m' hm'
  have hok' := hok m m' hm hm' em em'
  rw [em, em']
  have im : (nI m).toNatClampNeg = m := nI_clamp (by omega)
  have im' : (nI m').toNatClampNeg = m' := nI_clamp (by omega)
  have cont : ∀ w : Int32, (aSm (S m) (S m') → w = 1) → (¬ aSm (S m) (S m') → w = 0) → vp_in (nI m) (ml 1) ∧ (vp_in (nI m') (ml 1) ∧ (vp_in (nI m) (ml 2) ∧ (vp_in (nI m') (ml 2) ∧ (vp_in (nI m) (ml 3) ∧ (vp_in (nI m') (ml 3) ∧ (∃ n15x, wpl_X11_copy_75 w (nI m) (nI m') (fun (μ28 : TMem) => (w = 0 → (wp_X11_did μ28 (1 : Int32) (fun (r31 : Int32) (μ30 : TMem) => Q r31 μ30))) ∧ (¬ w = 0 → (wp_X11_did μ28 (0 : Int32) (fun (r33 : Int32) (μ32 : TMem) => Q r33 μ32)))) n15x (0 : Int32) (tms (tms (tms (tms ν 0 7 0) 1 (nI m').toNatClampNeg ((tms ν 0 7 0) 1 (nI m).toNatClampNeg)) 2 (nI m').toNatClampNeg ((tms (tms ν 0 7 0) 1 (nI m').toNatClampNeg ((tms ν 0 7 0) 1 (nI m).toNatClampNeg)) 2 (nI m).toNatClampNeg)) 3 (nI m').toNatClampNeg ((tms (tms (tms ν 0 7 0) 1 (nI m').toNatClampNeg ((tms ν 0 7 0) 1 (nI m).toNatClampNeg)) 2 (nI m').toNatClampNeg ((tms (tms ν 0 7 0) 1 (nI m').toNatClampNeg ((tms ν 0 7 0) 1 (nI m).toNatClampNeg)) 2 (nI m).toNatClampNeg)) 3 (nI m).toNatClampNeg)))))))) := by
    intro w hw1 hw0
    refine ⟨s_in hm (by omega), s_in hm' (by omega), s_in hm (by omega), s_in hm' (by omega), s_in hm (by omega), s_in hm' (by omega), ?_⟩
    rw [im, im']
    generalize hN : tms ν 0 7 0 = N at *
    obtain ⟨b1, b2, b3, b4⟩ := hR
    generalize hs : tms (tms (tms N 1 m' (N 1 m)) 2 m' ((tms N 1 m' (N 1 m)) 2 m)) 3 m' ((tms (tms N 1 m' (N 1 m)) 2 m' ((tms N 1 m' (N 1 m)) 2 m)) 3 m) = νs
    have s4 : νs 4 = N 4 := by rw [← hs, tms_ne (by decide), tms_ne (by decide), tms_ne (by decide)]
    have L : ∀ (nf i : Nat) (ν1 : TMem), 21 - i < nf → i ≤ 21 → RW m' νs (S m).2.2.2 i ν1 → wpl_X11_copy_75 w (nI m) (nI m') (fun (μ28 : TMem) => (w = 0 → (wp_X11_did μ28 (1 : Int32) (fun (r31 : Int32) (μ30 : TMem) => Q r31 μ30))) ∧ (¬ w = 0 → (wp_X11_did μ28 (0 : Int32) (fun (r33 : Int32) (μ32 : TMem) => Q r33 μ32)))) nf (nI i) ν1 := by
      intro nf
      induction nf with
      | zero => intro i ν1 hk; exact absurd hk (Nat.not_lt_zero _)
      | succ nf ih =>
        intro i ν1 hk hi hW
        refine ⟨fun c => ?_, fun c => rr_key0 (rr_key0 ?_)⟩
        · rw [show (21 : Int32) = nI 21 from rfl, nI_leI (by omega) (by omega)] at c
          rw [show i = 21 by omega] at hW
          obtain ⟨w1, w2, w3⟩ := hW
          by_cases p : aSm (S m) (S m')
          · refine did2 (P := aSm (S m) (S m')) (v := 0) ⟨fun _ => rfl, fun z => absurd p z⟩ hw1 hw0 (hok' 0 ⟨fun _ => rfl, fun z => absurd p z⟩ _ (h0.act (m := m') (A := S m) ⟨?_, ?_, ?_, fun j hj => w1 j hj⟩ ⟨?_, fun i hi => ⟨?_, ?_, ?_⟩, fun p hp => ?_⟩))
            · rw [w3 1 (by decide), ← hs]; simp [tms_ix, b1]
            · rw [w3 2 (by decide), ← hs]; simp [tms_ix, b2]
            · rw [w3 3 (by decide), ← hs]; simp [tms_ix, b3]
            · rw [w3 0 (by decide), ← hs, tms_ne (by decide), tms_ne (by decide), tms_ne (by decide)]
            · rw [w3 1 (by decide), ← hs]; simp [tms_ix, hi]
            · rw [w3 2 (by decide), ← hs]; simp [tms_ix, hi]
            · rw [w3 3 (by decide), ← hs]; simp [tms_ix, hi]
            · rw [w2 p (by omega), s4]
          · refine did2 (P := aSm (S m) (S m')) (v := 1) ⟨fun z => absurd z p, fun _ => rfl⟩ hw1 hw0 (hok' 1 ⟨fun z => absurd z p, fun _ => rfl⟩ _ (h0.act (m := m') (A := S m) ⟨?_, ?_, ?_, fun j hj => w1 j hj⟩ ⟨?_, fun i hi => ⟨?_, ?_, ?_⟩, fun p hp => ?_⟩))
            · rw [w3 1 (by decide), ← hs]; simp [tms_ix, b1]
            · rw [w3 2 (by decide), ← hs]; simp [tms_ix, b2]
            · rw [w3 3 (by decide), ← hs]; simp [tms_ix, b3]
            · rw [w3 0 (by decide), ← hs, tms_ne (by decide), tms_ne (by decide), tms_ne (by decide)]
            · rw [w3 1 (by decide), ← hs]; simp [tms_ix, hi]
            · rw [w3 2 (by decide), ← hs]; simp [tms_ix, hi]
            · rw [w3 3 (by decide), ← hs]; simp [tms_ix, hi]
            · rw [w2 p (by omega), s4]
        rw [show (21 : Int32) = nI 21 from rfl, nI_leI (by omega) (by omega)] at c
        rw [nI_add, nI_add, nI_clamp (by omega), nI_clamp (by omega), nI_1]
        refine ⟨s_in (show _ < 84 by omega) (by omega), s_in (show _ < 84 by omega) (by omega), ?_⟩
        have e : ν1 4 (21 * m + i) = (S m).2.2.2 i := by
          rw [hW.2.1 _ (by omega), s4]
          exact b4 i (by omega)
        rw [e]
        exact ih (i + 1) _ (by omega) (by omega) hW.step
    have g := L 22 0 νs (by omega) (by omega) RW.start
    rw [nI_0] at g
    exact ⟨_, g⟩
  exact rr_isSame hm hm' hR hR' (hv m hm) (hv m' hm') (fun p => cont 1 (fun _ => rfl) (fun z => absurd p z)) (fun p => cont 0 (fun z => absurd z p) (fun _ => rfl))
theorem rr_exch {j i i' : Nat} {Qv : TMem → Prop} (hi : i < ml j) (hi' : i' < ml j) (h2 : i < 1000) (h2' : i' < 1000) (h : Qv (tms (tms ν j i (ν j i')) j i' (ν j i))) : wp_X11_exchange ν j (nI i) (nI i') Qv := by
  unfold wp_X11_exchange
  rw [nI_clamp (by omega), nI_clamp (by omega)]
  exact ⟨s_in hi (by omega), s_in hi' (by omega), s_in hi (by omega), s_in hi' (by omega), h⟩
theorem exch_at {j i i' x : Nat} : (tms (tms ν j i (ν j i')) j i' (ν j i)) j x = if x = i' then ν j i else if x = i then ν j i' else ν j x := by
  simp only [tms_ix]
  by_cases e : x = i'
  · simp [e]
  · simp [e]
theorem rr_swap (h : RSt ν S a r k t) (hv : AVs S) (hok : ∀ m m', m < 4 → m' < 4 → a1 = nI m → a2 = nI m' → ∀ v, BV v (aSm (S m) (S m')) → ∀ ν9, RSt ν9 (sUp (sUp S m (S m')) m' (S m)) (a + 1) r k 0 → Q v ν9) (h1 : ¬ ONE2 a1 a2 → ∀ b ν9, RSt ν9 S a r k 1 → Q b ν9) : wp_X11_swap ν a1 a2 Q := by
  refine rr_two (fun m m' hm hm' em em' => th_ok ⟨fun _ => ?_, fun q => absurd rfl q⟩) (fun z => th_1 ⟨fun q => absurd q (by decide), fun _ => h1 z _ _ (h.thr 1)⟩)
  have h0 := h.thr 0
  have hR := h0.1 m hm
  have hR' := h0.1 m' hm'
  have hok' := hok m m' hm hm' em em'
  rw [em, em']
  generalize hN : tms ν 0 7 0 = N at *
  have cont : ∀ w : Int32, (aSm (S m) (S m') → w = 1) → (¬ aSm (S m) (S m') → w = 0) → wp_X11_exchange N 1 (nI m) (nI m') (fun (μ10 : TMem) => wp_X11_exchange μ10 2 (nI m) (nI m') (fun (μ11 : TMem) => wp_X11_exchange μ11 3 (nI m) (nI m') (fun (μ12 : TMem) => ∃ n12x, wpl_X11_swap_66 w (nI m) (nI m') (fun (μ24 : TMem) => (w = 0 → (wp_X11_did μ24 (1 : Int32) (fun (r27 : Int32) (μ26 : TMem) => Q r27 μ26))) ∧ (¬ w = 0 → (wp_X11_did μ24 (0 : Int32) (fun (r29 : Int32) (μ28 : TMem) => Q r29 μ28)))) n12x (0 : Int32) μ12))) := by
    intro w hw1 hw0
    refine rr_exch (show m < 4 from hm) (show m' < 4 from hm') (by omega) (by omega) (rr_exch (show m < 4 from hm) (show m' < 4 from hm') (by omega) (by omega) (rr_exch (show m < 4 from hm) (show m' < 4 from hm') (by omega) (by omega) ?_))
    generalize hs1 : tms (tms N 1 m (N 1 m')) 1 m' (N 1 m) = N1
    generalize hs2 : tms (tms N1 2 m (N1 2 m')) 2 m' (N1 2 m) = N2
    generalize hs3 : tms (tms N2 3 m (N2 3 m')) 3 m' (N2 3 m) = νs
    have s4 : νs 4 = N 4 := by rw [← hs3, tms_ne (by decide), tms_ne (by decide), ← hs2, tms_ne (by decide), tms_ne (by decide), ← hs1, tms_ne (by decide), tms_ne (by decide)]
    have s0 : νs 0 = N 0 := by rw [← hs3, tms_ne (by decide), tms_ne (by decide), ← hs2, tms_ne (by decide), tms_ne (by decide), ← hs1, tms_ne (by decide), tms_ne (by decide)]
    have s1 : ∀ x, νs 1 x = if x = m' then N 1 m else if x = m then N 1 m' else N 1 x := fun x => by
      rw [← hs3, tms_ne (by decide), tms_ne (by decide), ← hs2, tms_ne (by decide), tms_ne (by decide), ← hs1]; exact exch_at
    have s2 : ∀ x, νs 2 x = if x = m' then N 2 m else if x = m then N 2 m' else N 2 x := fun x => by
      have e : N1 2 = N 2 := by rw [← hs1, tms_ne (by decide), tms_ne (by decide)]
      rw [← hs3, tms_ne (by decide), tms_ne (by decide), ← hs2, exch_at, e]
    have s3 : ∀ x, νs 3 x = if x = m' then N 3 m else if x = m then N 3 m' else N 3 x := fun x => by
      have e : N2 3 = N 3 := by rw [← hs2, tms_ne (by decide), tms_ne (by decide), ← hs1, tms_ne (by decide), tms_ne (by decide)]
      rw [← hs3, exch_at, e]
    have L : ∀ (nf i : Nat) (ν1 : TMem), 21 - i < nf → i ≤ 21 → (∀ j, j < i → ν1 4 (21 * m + j) = (S m').2.2.2 j) → (∀ j, j < i → ν1 4 (21 * m' + j) = (S m).2.2.2 j) → (∀ q, (q < 21 * m ∨ 21 * m + i ≤ q) → (q < 21 * m' ∨ 21 * m' + i ≤ q) → ν1 4 q = N 4 q) → (∀ j, j ≠ 4 → ν1 j = νs j) → wpl_X11_swap_66 w (nI m) (nI m') (fun (μ24 : TMem) => (w = 0 → (wp_X11_did μ24 (1 : Int32) (fun (r27 : Int32) (μ26 : TMem) => Q r27 μ26))) ∧ (¬ w = 0 → (wp_X11_did μ24 (0 : Int32) (fun (r29 : Int32) (μ28 : TMem) => Q r29 μ28)))) nf (nI i) ν1 := by
      intro nf
      induction nf with
      | zero => intro i ν1 hk; exact absurd hk (Nat.not_lt_zero _)
      | succ nf ih =>
        intro i ν1 hk hi w1 w2 w3 w4
        refine ⟨fun c => ?_, fun c => rr_key0 (rr_key0 ?_)⟩
        · rw [show (21 : Int32) = nI 21 from rfl, nI_leI (by omega) (by omega)] at c
          have e : i = 21 := by omega
          subst e
          have hC : RSt (tms ν1 0 4 ((ν1 0 4) + (1 : Int32))) (sUp (sUp S m (S m')) m' (S m)) (a + 1) r k 0 := by
            obtain ⟨c1, c2, c3, c4, c5⟩ := h0
            have z0 : ν1 0 = N 0 := by rw [w4 0 (by decide), s0]
            refine ⟨fun x hx => ?_, by simp [tms_ix, z0, c2], by simp [tms_ix, z0, c3], by simp [tms_ix, z0, c4], by simp [tms_ix, z0, c5]⟩
            by_cases e1 : x = m'
            · rw [e1, sUp_at]
              exact ⟨by rw [tms_ne (by decide), w4 1 (by decide), s1, if_pos rfl]; exact hR.1, by rw [tms_ne (by decide), w4 2 (by decide), s2, if_pos rfl]; exact hR.2.1, by rw [tms_ne (by decide), w4 3 (by decide), s3, if_pos rfl]; exact hR.2.2.1, fun j hj => by rw [tms_ne (by decide)]; exact w2 j hj⟩
            · rw [sUp_ne e1]
              by_cases e2 : x = m
              · rw [e2, sUp_at]
                rw [e2] at e1
                exact ⟨by rw [tms_ne (by decide), w4 1 (by decide), s1, if_neg e1, if_pos rfl]; exact hR'.1, by rw [tms_ne (by decide), w4 2 (by decide), s2, if_neg e1, if_pos rfl]; exact hR'.2.1, by rw [tms_ne (by decide), w4 3 (by decide), s3, if_neg e1, if_pos rfl]; exact hR'.2.2.1, fun j hj => by rw [tms_ne (by decide)]; exact w1 j hj⟩
              · rw [sUp_ne e2]
                obtain ⟨g1, g2, g3, g4⟩ := c1 x hx
                exact ⟨by rw [tms_ne (by decide), w4 1 (by decide), s1, if_neg e1, if_neg e2]; exact g1, by rw [tms_ne (by decide), w4 2 (by decide), s2, if_neg e1, if_neg e2]; exact g2, by rw [tms_ne (by decide), w4 3 (by decide), s3, if_neg e1, if_neg e2]; exact g3, fun j hj => by rw [tms_ne (by decide), w3 _ (by omega) (by omega)]; exact g4 j hj⟩
          by_cases p : aSm (S m) (S m')
          · exact did2 (P := aSm (S m) (S m')) (v := 0) ⟨fun _ => rfl, fun z => absurd p z⟩ hw1 hw0 (hok' 0 ⟨fun _ => rfl, fun z => absurd p z⟩ _ hC)
          · exact did2 (P := aSm (S m) (S m')) (v := 1) ⟨fun z => absurd z p, fun _ => rfl⟩ hw1 hw0 (hok' 1 ⟨fun z => absurd z p, fun _ => rfl⟩ _ hC)
        rw [show (21 : Int32) = nI 21 from rfl, nI_leI (by omega) (by omega)] at c
        rw [nI_add, nI_add, nI_1]
        refine rr_exch (show 21 * m + i < 84 by omega) (show 21 * m' + i < 84 by omega) (by omega) (by omega) ?_
        have em1 : ν1 4 (21 * m + i) = (S m).2.2.2 i := by
          by_cases e : m = m'
          · rw [w3 _ (by omega) (by omega)]; exact hR.2.2.2 i (by omega)
          · rw [w3 _ (by omega) (by omega)]; exact hR.2.2.2 i (by omega)
        have em2 : ν1 4 (21 * m' + i) = (S m').2.2.2 i := by
          rw [w3 _ (by omega) (by omega)]; exact hR'.2.2.2 i (by omega)
        have at' := fun x => exch_at (ν := ν1) (j := 4) (i := 21 * m + i) (i' := 21 * m' + i) (x := x)
        refine ih (i + 1) _ (by omega) (by omega) (fun j hj => ?_) (fun j hj => ?_) (fun q q1 q2 => ?_) (fun j hj => by rw [tms_ne hj, tms_ne hj]; exact w4 j hj)
        · rw [at', em1, em2]
          by_cases e : j = i
          · by_cases e2 : m = m'
            · rw [e, e2, if_pos rfl]
            · rw [if_neg (by omega), if_pos (by omega), e]
          · rw [if_neg (by omega), if_neg (by omega)]
            exact w1 j (by omega)
        · rw [at', em1, em2]
          by_cases e : j = i
          · rw [if_pos (by omega), e]
          · rw [if_neg (by omega), if_neg (by omega)]
            exact w2 j (by omega)
        · rw [at', if_neg (by omega), if_neg (by omega)]
          exact w3 q (by omega) (by omega)
    have g := L 22 0 νs (by omega) (by omega) (fun j hj => absurd hj (Nat.not_lt_zero _)) (fun j hj => absurd hj (Nat.not_lt_zero _)) (fun q _ _ => by rw [s4]) (fun _ _ => rfl)
    rw [nI_0] at g
    exact ⟨_, g⟩
  exact rr_isSame hm hm' hR hR' (hv m hm) (hv m' hm') (fun p => cont 1 (fun _ => rfl) (fun z => absurd p z)) (fun p => cont 0 (fun z => absurd z p) (fun _ => rfl))
end SRG
end
/-! part 9sah.ref3 -/
section
section SRH
variable {ν ν9 : TMem} {S : Nat → AM} {a r k t : Int32} {a1 a2 a3 a4 a5 : Int32} {Q : Int32 → TMem → Prop} {Qi : Int32 → Prop} {m : Nat} {A : AM}
theorem of_nn {x : Int32} {n : Nat} (h : nn x < 2 ^ n) (hn : n ≤ 7) : x = nI (nn x) ∧ nn x < 128 := by
  have h2 : (2 : Nat) ^ n ≤ 2 ^ 7 := Nat.pow_le_pow_right (by decide) hn
  exact ⟨s_of (nn_nonneg (by omega)) (by omega), by omega⟩
theorem mask_fin : ∀ n : Nat, n < 8 → ∀ x : Nat, x < 128 → x < 2 ^ n → (((1 : Int32) <<< (nI n &&& 31)) - (1 : Int32)) &&& (nI x ^^^ (-1 : Int32)) = nI x ^^^ (((1 : Int32) <<< (nI n &&& 31)) - (1 : Int32)) ∧ nn ((((1 : Int32) <<< (nI n &&& 31)) - (1 : Int32)) &&& (nI x ^^^ (-1 : Int32))) < 2 ^ n := by decide +kernel
theorem aO_eq (hv : AV A) : (aO A).2.2.1 = A.2.2.1 ^^^ (((1 : Int32) <<< (nI A.1 &&& 31)) - (1 : Int32)) ∧ nn (aO A).2.2.1 < 2 ^ A.1 := by
  have h7 := hv.2.1
  have h := of_nn hv.2.2.2.1 h7
  have hx := hv.2.2.2.1
  have g := mask_fin A.1 (by omega) (nn A.2.2.1) h.2 hx
  rw [← h.1] at g
  exact g
theorem cu_fin : ∀ n : Nat, n < 8 → ∀ g : Nat, g < n → ∀ x : Nat, x < 2 ^ n → nn (cu (nI x) g) < 2 ^ (n - 1) := by decide +kernel
theorem cu_lt {x : Int32} {n g : Nat} (h : nn x < 2 ^ n) (hn : n ≤ 7) (hg : g < n) : nn (cu x g) < 2 ^ (n - 1) := by
  have e := of_nn h hn
  have := cu_fin n (by omega) g hg (nn x) h
  rwa [← e.1] at this
theorem cu_0 : ∀ g : Nat, g < 7 → cu 0 g = 0 := by decide +kernel
theorem aO_AV (hv : AV A) : AV (aO A) := ⟨hv.1, hv.2.1, hv.2.2.1, (aO_eq hv).2, hv.2.2.2.2.1, hv.2.2.2.2.2⟩
theorem aD_AV {s : Nat} (hv : AV A) (hs : s < A.1) (h1 : A.1 ≠ 1) : AV (aD A s) := by
  obtain ⟨v1, v7, vs, vg, vc, vz⟩ := hv
  refine ⟨show 1 ≤ A.1 - 1 by omega, show A.1 - 1 ≤ 7 by omega, cu_lt vs v7 hs, cu_lt vg v7 hs, fun j hj => ?_, fun j hj => ?_⟩
  · have hj' : j < 3 * (A.1 - 1) := hj
    show nn (if j < 3 * (A.1 - 1) then cu (A.2.2.2 (if j < 3 * s then j else j + 3)) s else 0) < 2 ^ (A.1 - 1)
    rw [if_pos hj']
    refine cu_lt (vc _ ?_) v7 hs
    by_cases e : j < 3 * s
    · rw [if_pos e]; omega
    · rw [if_neg e]; omega
  · have hj' : 3 * (A.1 - 1) ≤ j := hj
    show (if j < 3 * (A.1 - 1) then cu (A.2.2.2 (if j < 3 * s then j else j + 3)) s else 0) = 0
    rw [if_neg (by omega)]
theorem rr_isPlain (hm : m < 4) (hR : HR ν m A) (hv : AV A) (h1 : aPl A → Qi 1) (h0 : ¬ aPl A → Qi 0) : wp_X11_isPlain ν (nI m) Qi := by
  obtain ⟨b1, b2, b3, b4⟩ := hR
  have v7 := hv.2.1
  have im : (nI m).toNatClampNeg = m := nI_clamp (by omega)
  have L2 : ∀ (x : Nat) (K : Int32 → Prop), x < A.1 → (∀ v : Int32, (v = 1 ∧ pop A.2.1 = 1 ∧ (∀ j, j < 3 * x + 3 → pop (A.2.2.2 j) = 1) ∨ v = 0 ∧ ¬ aPl A) → K v) → ∀ (nf b : Nat) (v : Int32), 3 - b < nf → b ≤ 3 → (v = 1 ∧ pop A.2.1 = 1 ∧ (∀ j, j < 3 * x + b → pop (A.2.2.2 j) = 1) ∨ v = 0 ∧ ¬ aPl A) → wpl_X11_isPlain_34 ν (nI x) (nI m) K nf (nI b) v := by
    intro x K hx hK nf
    induction nf with
    | zero => intro b v hk; exact absurd hk (Nat.not_lt_zero _)
    | succ nf ih =>
      intro b v hk hb hV
      refine ⟨fun c => ?_, fun c => rr_key ?_⟩
      · rw [show (3 : Int32) = nI 3 from rfl, nI_leI (by omega) (by omega)] at c
        rw [show 3 * x + b = 3 * x + 3 by omega] at hV
        exact hK v hV
      rw [show (3 : Int32) = nI 3 from rfl, nI_leI (by omega) (by omega)] at c
      refine ⟨s_in (show _ < 84 by omega) (by omega), ?_⟩
      rw [nI_clamp (by omega), Nat.add_assoc, b4 _ (by omega)]
      refine pop_w ⟨fun z => ?_, fun z => ?_⟩
      · rw [nI_1]
        refine ih (b + 1) _ (by omega) (by omega) (Or.inr ⟨?_, fun w => z (w.1 _ (by omega))⟩)
        rcases hV with ⟨rfl, _⟩ | ⟨rfl, _⟩ <;> decide
      · rw [nI_1]
        refine ih (b + 1) _ (by omega) (by omega) ?_
        rcases hV with ⟨rfl, hp, hV⟩ | ⟨rfl, hV⟩
        · refine Or.inl ⟨by decide, hp, fun j hj => ?_⟩
          by_cases e : j = 3 * x + b
          · rw [e]; exact z
          · exact hV j (by omega)
        · exact Or.inr ⟨by decide, hV⟩
  have L1 : ∀ (nf x : Nat) (v : Int32), A.1 - x < nf → x ≤ A.1 → (v = 1 ∧ pop A.2.1 = 1 ∧ (∀ j, j < 3 * x → pop (A.2.2.2 j) = 1) ∨ v = 0 ∧ ¬ aPl A) → wpl_X11_isPlain_21 ν (nI m) Qi nf (nI x) v := by
    intro nf
    induction nf with
    | zero => intro x v hk; exact absurd hk (Nat.not_lt_zero _)
    | succ nf ih =>
      intro x v hk hx hV
      refine ⟨s_in hm (by omega), ?_⟩
      rw [im, b1]
      refine ⟨fun c => ?_, fun c => ?_⟩
      · rw [nI_leI (by omega) (by omega)] at c
        have e : x = A.1 := by omega
        subst e
        rcases hV with ⟨rfl, hp, hV⟩ | ⟨rfl, hV⟩
        · exact ⟨Or.inr rfl, h1 ⟨hV, hp⟩⟩
        · exact ⟨Or.inl rfl, h0 hV⟩
      rw [nI_leI (by omega) (by omega)] at c
      have g := L2 x (fun u => wpl_X11_isPlain_21 ν (nI m) Qi nf (nI x + (1 : Int32)) u) (by omega) (fun u hu => by rw [nI_1]; exact ih (x + 1) u (by omega) (by omega) hu) 4 0 v (by omega) (by omega) hV
      rw [nI_0] at g
      exact ⟨_, g⟩
  have go : ∀ v : Int32, (v = 1 ∧ pop A.2.1 = 1 ∨ v = 0 ∧ ¬ aPl A) → ∃ n4x, wpl_X11_isPlain_21 ν (nI m) Qi n4x (0 : Int32) v := fun v hV => by
    have g := L1 (A.1 + 1) 0 v (by omega) (by omega) (hV.imp (fun z => ⟨z.1, z.2, fun j hj => absurd hj (Nat.not_lt_zero _)⟩) (fun z => z))
    rw [nI_0] at g
    exact ⟨_, g⟩
  refine ⟨s_in hm (by omega), ?_⟩
  rw [im, b2]
  refine pop_w (fun J hJ => ⟨fun z => hJ 0 (go 0 (Or.inr ⟨rfl, fun w => z w.2⟩)), fun z => hJ 1 (go 1 (Or.inl ⟨rfl, z⟩))⟩)
theorem rr_other (h : RSt ν S a r k t) (hv : AVs S) (hok : ∀ m, m < 4 → a1 = nI m → aPl (S m) → ∀ ν9, RSt ν9 (sUp S m (aO (S m))) (a + 1) r k 0 → Q (pop (aO (S m)).2.2.1) ν9) (hre : ∀ m, m < 4 → a1 = nI m → ¬ aPl (S m) → ∀ ν9, RSt ν9 S a (r + 1) k 0 → Q (-9) ν9) (h1 : ¬ M1 a1 → ∀ b ν9, RSt ν9 S a r k 1 → Q b ν9) : wp_X11_other ν a1 Q := by
  refine rr_one (fun m hm em => th_ok ⟨fun _ => ?_, fun q => absurd rfl q⟩) (fun z => th_1 ⟨fun q => absurd q (by decide), fun _ => h1 z _ _ (h.thr 1)⟩)
  have h0 := h.thr 0
  have hR := h0.1 m hm
  have hok' := hok m hm em
  have hre' := hre m hm em
  have im : (nI m).toNatClampNeg = m := nI_clamp (by omega)
  rw [em]
  generalize hN : tms ν 0 7 0 = N at *
  refine rr_isPlain hm hR (hv m hm) (fun p => ⟨fun _ => ?_, fun q => absurd q (by decide)⟩) (fun p => ⟨fun q => absurd rfl q, fun _ => hre' p _ h0.ref⟩)
  have g := hok' p _ (h0.act (m := m) (A := aO (S m)) (ν9 := tms N 3 m (aO (S m)).2.2.1) hR.set3.1 hR.set3.2)
  refine ⟨s_in hm (by omega), s_in hm (by omega), s_in hm (by omega), s_in hm (by omega), ?_⟩
  rw [im, hR.1, hR.2.2.1, ← (aO_eq (hv m hm)).1, tms_eq, upd_at]
  exact pop_w g
theorem rr_grow (h : RSt ν S a r k t) (hv : AVs S) (hok : ∀ m, m < 4 → a1 = nI m → (S m).1 < 7 → ∀ ν9, RSt ν9 (sUp S m ((S m).1 + 1, (S m).2)) (a + 1) r k 0 → Q (nI (S m).1) ν9) (hre : ∀ m, m < 4 → a1 = nI m → ¬ (S m).1 < 7 → ∀ ν9, RSt ν9 S a (r + 1) k 0 → Q (-9) ν9) (h1 : ¬ M1 a1 → ∀ b ν9, RSt ν9 S a r k 1 → Q b ν9) : wp_X11_grow ν a1 Q := by
  refine rr_one (fun m hm em => th_ok ⟨fun _ => ?_, fun q => absurd rfl q⟩) (fun z => th_1 ⟨fun q => absurd q (by decide), fun _ => h1 z _ _ (h.thr 1)⟩)
  have h0 := h.thr 0
  have hR := h0.1 m hm
  have v7 := (hv m hm).2.1
  have hok' := hok m hm em
  have hre' := hre m hm em
  have im : (nI m).toNatClampNeg = m := nI_clamp (by omega)
  rw [em]
  generalize hN : tms ν 0 7 0 = N at *
  refine ⟨s_in hm (by omega), ?_⟩
  rw [im, hR.1, nI_1, show (7 : Int32) = nI 7 from rfl, nI_eq (by omega) (by omega)]
  refine ⟨fun z => ⟨s_in hm (by omega), s_in hm (by omega), s_in hm (by omega), ?_⟩, fun z => hre' (by omega) _ h0.ref⟩
  obtain ⟨b1, b2, b3, b4⟩ := hR
  have g := hok' (by omega) _ (h0.act (m := m) (A := ((S m).1 + 1, (S m).2)) (ν9 := tms N 1 m (nI ((S m).1 + 1))) ⟨by simp [tms_ix], by rw [tms_ne (by decide)]; exact b2, by rw [tms_ne (by decide)]; exact b3, fun j hj => by rw [tms_ne (by decide)]; exact b4 j hj⟩ ⟨tms_ne (by decide), fun i hi => ⟨by simp [tms_ix, hi], by rw [tms_ne (by decide)], by rw [tms_ne (by decide)]⟩, fun p _ => by rw [tms_ne (by decide)]⟩)
  rw [tms_eq, upd_at, nI_pred]
  exact g
theorem rr_without {x : Int32} {s : Nat} (h : Qi (cu x s)) : wp_X11_without x (nI s) Qi := h
def dv (c : Nat → Int32) (s j : Nat) : Int32 := if j < 3 * s then c j else if j + 3 < 21 then c (j + 3) else 0
theorem rr_drop (h : RSt ν S a r k t) (hv : AVs S) (hok : ∀ m s, m < 4 → a1 = nI m → s < (S m).1 → a2 = nI s → (S m).1 ≠ 1 → ∀ ν9, RSt ν9 (sUp S m (aD (S m) s)) (a + 1) r k 0 → Q (AC (S m) - AC (aD (S m) s)) ν9) (hre : ∀ m s, m < 4 → a1 = nI m → s < (S m).1 → a2 = nI s → (S m).1 = 1 → ∀ ν9, RSt ν9 S a (r + 1) k 0 → Q (-9) ν9) (h1 : ¬ (∃ m, m < 4 ∧ a1 = nI m ∧ STn a2 (S m).1) → ∀ b ν9, RSt ν9 S a r k 1 → Q b ν9) : wp_X11_drop ν a1 a2 Q := by
  have bad0 : ¬ (∃ m, m < 4 ∧ a1 = nI m ∧ STn a2 (S m).1) → ∀ (B : TMem → Prop), wp_X11_isThrown ν 0 1 (fun (r5 : Int32) (μ4 : TMem) => (r5 = 0 → B μ4) ∧ (¬ r5 = 0 → (Q (0 : Int32) μ4))) := fun z B => th_1 ⟨fun q => absurd q (by decide), fun _ => h1 z _ _ (h.thr 1)⟩
  refine rr_one (fun m hm em J hJ => ⟨fun z => absurd z (by decide), fun _ => ?_⟩) (fun z J hJ => ⟨fun _ => hJ 0 (bad0 (fun ⟨m, hm, e, _⟩ => z (e ▸ M1_nI hm)) _), fun w => absurd rfl w⟩)
  have hR0 := h.1 m hm
  have v1 := (hv m hm).1
  have v7 := (hv m hm).2.1
  have hbad : ¬ STn a2 (S m).1 → ¬ (∃ m, m < 4 ∧ a1 = nI m ∧ STn a2 (S m).1) := fun z ⟨m', hm', e', e4⟩ => z (by rw [nI_inj4 hm hm' (em.symm.trans e')]; exact e4)
  have hok' := fun s => hok m s hm em
  have hre' := fun s => hre m s hm em
  subst em
  refine rr_st hm hR0.1 v1 v7 (fun s hs es => ⟨fun z => absurd z (by decide), fun _ => hJ 1 (th_ok ⟨fun _ => ?_, fun q => absurd rfl q⟩)⟩) (fun z => ⟨fun _ => hJ 0 (bad0 (hbad z) _), fun w => absurd rfl w⟩)
  have h0 := h.thr 0
  have hR := h0.1 m hm
  have im : (nI m).toNatClampNeg = m := nI_clamp (by omega)
  have vA := hv m hm
  generalize hN : tms ν 0 7 0 = N at *
  refine ⟨s_in hm (by omega), ?_⟩
  rw [im, hR.1, show nI (S m).1 = (1 : Int32) ↔ (S m).1 = 1 from nI_eq (b := 1) (by omega) (by omega)]
  refine ⟨fun z => ?_, fun z => hre' s hs es z _ h0.ref⟩
  have vD := aD_AV vA hs z
  rw [es]
  refine rr_arrowsOf hm hR vA (rr_key (f := s) (s := 0) ?_)
  obtain ⟨b1, b2, b3, b4⟩ := hR
  have hokz := hok' s hs es z
  generalize hA : S m = A at *
  have vz := vA.2.2.2.2.2
  -- first the cells behind move up
  have L1 : ∀ (w : Int32) (K : TMem → Prop), (∀ ν1, RW m N (dv A.2.2.2 s) 21 ν1 → K ν1) → ∀ (nf i : Nat) (ν1 : TMem), 21 - i < nf → i ≤ 21 → 3 * s ≤ i → RW m N (dv A.2.2.2 s) i ν1 → wpl_X11_drop_60 w (nI m) (nI s) K nf (nI (21 * m + i)) ν1 := by
    intro w K hK nf
    induction nf with
    | zero => intro i ν1 hk; exact absurd hk (Nat.not_lt_zero _)
    | succ nf ih =>
      intro i ν1 hk hi his hW
      refine rr_key0 ?_
      rw [show (21 : Int32) = nI 21 from rfl, nI_add]
      refine ⟨fun q => ?_, fun q => rr_key0 ?_⟩
      · rw [nI_leI (by omega) (by omega)] at q
        rw [show i = 21 by omega] at hW
        exact hK ν1 hW
      rw [nI_leI (by omega) (by omega)] at q
      rw [show (3 : Int32) = nI 3 from rfl, nI_add, nI_add, nI_1]
      have val := hW.step
      refine ⟨fun y => ?_, fun y => ?_⟩
      · rw [nI_leI (by omega) (by omega)] at y
        refine ⟨s_in (show _ < 84 by omega) (by omega), ?_⟩
        rw [nI_clamp (by omega)]
        have e : dv A.2.2.2 s i = 0 := by rw [dv, if_neg (by omega), if_neg (by omega)]
        rw [e] at val
        exact ih (i + 1) _ (by omega) (by omega) (by omega) val
      · rw [nI_leI (by omega) (by omega)] at y
        refine ⟨s_in (show _ < 84 by omega) (by omega), s_in (show _ < 84 by omega) (by omega), ?_⟩
        rw [nI_clamp (by omega), nI_clamp (by omega), show 21 * m + i + 1 = 21 * m + (i + 1) by omega, hW.2.1 _ (by omega), show 21 * m + i + 3 = 21 * m + (i + 3) by omega, b4 (i + 3) (by omega)]
        have e : dv A.2.2.2 s i = A.2.2.2 (i + 3) := by rw [dv, if_neg (by omega), if_pos (by omega)]
        rw [e] at val
        exact ih (i + 1) _ (by omega) (by omega) (by omega) val
  have L2 : ∀ (w : Int32) (N1 : TMem) (K : TMem → Prop), RW m N (dv A.2.2.2 s) 21 N1 → (∀ ν1, RW m N1 (aD A s).2.2.2 21 ν1 → K ν1) → ∀ (nf i : Nat) (ν1 : TMem), 21 - i < nf → i ≤ 21 → RW m N1 (aD A s).2.2.2 i ν1 → wpl_X11_drop_119 w (nI m) (nI s) K nf (nI i) ν1 := by
    intro w N1 K h1 hK nf
    induction nf with
    | zero => intro i ν1 hk; exact absurd hk (Nat.not_lt_zero _)
    | succ nf ih =>
      intro i ν1 hk hi hW
      refine ⟨fun q => ?_, fun q => rr_key0 (rr_key0 ?_)⟩
      · rw [show (21 : Int32) = nI 21 from rfl, nI_leI (by omega) (by omega)] at q
        rw [show i = 21 by omega] at hW
        exact hK ν1 hW
      rw [show (21 : Int32) = nI 21 from rfl, nI_leI (by omega) (by omega)] at q
      rw [nI_add, nI_clamp (by omega), nI_1]
      refine ⟨s_in (show _ < 84 by omega) (by omega), rr_without ⟨s_in (show _ < 84 by omega) (by omega), ?_⟩⟩
      have e : cu (ν1 4 (21 * m + i)) s = (aD A s).2.2.2 i := by
        rw [hW.2.1 _ (by omega), h1.1 i (by omega), dv]
        show _ = if i < 3 * (A.1 - 1) then cu (A.2.2.2 (if i < 3 * s then i else i + 3)) s else 0
        by_cases y : i < 3 * (A.1 - 1)
        · rw [if_pos y]
          by_cases y2 : i < 3 * s
          · rw [if_pos y2, if_pos y2]
          · rw [if_neg y2, if_neg y2, if_pos (by omega)]
        · rw [if_neg y, if_neg (by omega)]
          by_cases y3 : i + 3 < 21
          · rw [if_pos y3, vz _ (by omega)]
            exact cu_0 s (by omega)
          · rw [if_neg y3]
            exact cu_0 s (by omega)
      rw [e]
      exact ih (i + 1) _ (by omega) (by omega) hW.step
  refine ⟨22, L1 _ _ (fun N1 w1 => ⟨22, ?_⟩) 22 (3 * s) N (by omega) (by omega) (by omega) ⟨fun j hj => by rw [dv, if_pos hj]; exact b4 j (by omega), fun _ _ => rfl, fun _ _ => rfl⟩⟩
  have g := L2 (AC A) N1 (fun (μ41 : TMem) => vp_in (nI m) (ml 2) ∧ (wp_X11_without (μ41 2 (nI m).toNatClampNeg) (nI s) (fun (r43 : Int32) => vp_in (nI m) (ml 2) ∧ (vp_in (nI m) (ml 3) ∧ (wp_X11_without ((tms μ41 2 (nI m).toNatClampNeg r43) 3 (nI m).toNatClampNeg) (nI s) (fun (r46 : Int32) => vp_in (nI m) (ml 3) ∧ (vp_in (nI m) (ml 1) ∧ (vp_in (nI m) (ml 1) ∧ (wp_X11_arrowsOf (tms (tms (tms μ41 2 (nI m).toNatClampNeg r43) 3 (nI m).toNatClampNeg r46) 1 (nI m).toNatClampNeg (((tms (tms μ41 2 (nI m).toNatClampNeg r43) 3 (nI m).toNatClampNeg r46) 1 (nI m).toNatClampNeg) - (1 : Int32))) (nI m) (fun (r52 : Int32) => wp_X11_did (tms (tms (tms μ41 2 (nI m).toNatClampNeg r43) 3 (nI m).toNatClampNeg r46) 1 (nI m).toNatClampNeg (((tms (tms μ41 2 (nI m).toNatClampNeg r43) 3 (nI m).toNatClampNeg r46) 1 (nI m).toNatClampNeg) - (1 : Int32))) (AC A - r52) (fun (r54 : Int32) (μ53 : TMem) => Q r54 μ53))))))))))) w1 (fun N2 w2 => ?_) 22 0 N1 (by omega) (by omega) RW.start
  · rw [nI_0, im] at g
    exact g
  rw [im]
  have n0 : N2 0 = N 0 := by rw [w2.2.2 0 (by decide), w1.2.2 0 (by decide)]
  have n1 : N2 1 = N 1 := by rw [w2.2.2 1 (by decide), w1.2.2 1 (by decide)]
  have n2 : N2 2 = N 2 := by rw [w2.2.2 2 (by decide), w1.2.2 2 (by decide)]
  have n3 : N2 3 = N 3 := by rw [w2.2.2 3 (by decide), w1.2.2 3 (by decide)]
  refine ⟨s_in hm (by omega), rr_without ⟨s_in hm (by omega), s_in hm (by omega), rr_without ⟨s_in hm (by omega), s_in hm (by omega), s_in hm (by omega), ?_⟩⟩⟩
  have e2 : N2 2 m = A.2.1 := by rw [n2]; exact b2
  have e3 : (tms N2 2 m (cu A.2.1 s)) 3 m = A.2.2.1 := by rw [tms_ne (by decide), n3]; exact b3
  have e1 : (tms (tms N2 2 m (cu A.2.1 s)) 3 m (cu A.2.2.1 s)) 1 m - (1 : Int32) = nI (A.1 - 1) := by
    rw [tms_ne (by decide), tms_ne (by decide), n1, b1, show (1 : Int32) = nI 1 from rfl, s_sub (by omega) (by omega)]
  rw [e2, e3, e1]
  have hRD : HR (tms (tms (tms N2 2 m (cu A.2.1 s)) 3 m (cu A.2.2.1 s)) 1 m (nI (A.1 - 1))) m (aD A s) := ⟨by simp [tms_ix, aD], by simp [tms_ix, aD], by simp [tms_ix, aD], fun j hj => by rw [tms_ne (by decide), tms_ne (by decide), tms_ne (by decide)]; exact w2.1 j hj⟩
  refine rr_arrowsOf hm hRD vD (hokz _ (h0.act hRD ⟨?_, fun i hi => ⟨?_, ?_, ?_⟩, fun p hp => ?_⟩))
  · rw [tms_ne (by decide), tms_ne (by decide), tms_ne (by decide), n0]
  · simp [tms_ix, hi, n1]
  · simp [tms_ix, hi, n2]
  · simp [tms_ix, hi, n3]
  · rw [tms_ne (by decide), tms_ne (by decide), tms_ne (by decide), w2.2.1 p (by omega), w1.2.1 p (by omega)]
end SRH
end
/-! part 9sai.ref4 -/
section
section SRI
variable {ν : TMem} {Qi : Int32 → Prop} {m : Nat} {A : AM} {na : Nat} {fa : Nat → Int64} {n : Nat}
/-- whether an arrow leads from f to i (or, turned round, from i to f), f in the set -/
def cnX (c : Nat → Nat) (tr : Bool) (S s f i : Nat) : Bool := S.testBit f && (c (3 * (if tr = true then i else f) + s)).testBit (if tr = true then f else i)
def NX (c : Nat → Nat) (tr : Bool) (S s m i : Nat) : Bool := (List.range m).any (fun f => cnX c tr S s f i)
theorem NX_s {c : Nat → Nat} {tr : Bool} {S s m i : Nat} : NX c tr S s (m + 1) i = (NX c tr S s m i || cnX c tr S s m i) := by
  rw [NX, NX, List.range_succ, List.any_append]
  simp
def bitsN (p : Nat → Bool) : Nat → Nat
  | 0 => 0
  | i + 1 => if p i = true then bitsN p i ||| 2 ^ i else bitsN p i
theorem bitsN_bit {p : Nat → Bool} : ∀ z i, (bitsN p z).testBit i = (decide (i < z) && p i) := by
  intro z
  induction z with
  | zero => intro i; rw [bitsN]; simp
  | succ z ih =>
    intro i
    rw [bitsN]
    by_cases e : i = z
    · subst e
      cases q : p i with
      | true => rw [if_pos rfl, s_or2]; simp
      | false => rw [if_neg (by decide), ih]; simp
    · have e2 : ¬ z = i := fun w => e w.symm
      have e3 : decide (i < z + 1) = decide (i < z) := decide_eq_decide.mpr (by omega)
      by_cases q : p z = true
      · rw [if_pos q, s_or2, ih, e3]; simp [e2]
      · rw [if_neg q, ih, e3]
/-- the set to which arrows lead from a set; of the machine turned round, if that is asked -/
def fX (n : Nat) (c : Nat → Nat) (tr : Bool) : Nat → Nat → Nat := fun S s => bitsN (NX c tr S s n) n
theorem rr_next {v14 : Int64} {s : Nat} {v16 : Int32} {tr : Bool} {Q : Int64 → Prop} (hn : 3 * n ≤ na) (h32 : n ≤ 32) (hs : s < 3) (htr : v16 = 0 ↔ tr = false) (h : ∀ y : Int64, ll y = fX n (fun j => ll (fa j)) tr (ll v14) s → Q y) : wp_X11_next na fa (nI n) v14 (nI s) v16 Q := by
  have L2 : ∀ (x : Nat) (K : Int64 → Prop), x < n → (∀ y : Int64, (∀ i, (ll y).testBit i = (decide (i < n) && NX (fun j => ll (fa j)) tr (ll v14) s (x + 1) i)) → K y) → ∀ (nf b : Nat) (y : Int64), n - b < nf → b ≤ n → (∀ i, (ll y).testBit i = ((decide (i < n) && NX (fun j => ll (fa j)) tr (ll v14) s x i) || (decide (i < b) && cnX (fun j => ll (fa j)) tr (ll v14) s x i))) → wpl_X11_next_15 fa na (nI x) (nI n) v14 (nI s) v16 K nf (nI b) y := by
    intro x K hx hK nf
    induction nf with
    | zero => intro b y hk; exact absurd hk (Nat.not_lt_zero _)
    | succ nf ih =>
      intro b y hk hb hy
      refine ⟨fun q => ?_, fun q => ?_⟩
      · rw [nI_leI (by omega) (by omega)] at q
        have e : b = n := by omega
        subst e
        refine hK y (fun i => ?_)
        rw [hy i, NX_s]
        cases decide (i < b) <;> simp
      rw [nI_leI (by omega) (by omega)] at q
      have go0 : cnX (fun j => ll (fa j)) tr (ll v14) s x b = false → wpl_X11_next_15 fa na (nI x) (nI n) v14 (nI s) v16 K nf (nI b + (1 : Int32)) y := fun z => by
        rw [nI_1]
        refine ih (b + 1) y (by omega) (by omega) (fun i => ?_)
        rw [hy i]
        by_cases e : i = b
        · subst e
          rw [z]
          simp
        · rw [show decide (i < b + 1) = decide (i < b) from decide_eq_decide.mpr (by omega)]
      have go1 : cnX (fun j => ll (fa j)) tr (ll v14) s x b = true → wpl_X11_next_15 fa na (nI x) (nI n) v14 (nI s) v16 K nf (nI b + (1 : Int32)) (y ||| ((1 : Int64) <<< ((nI b).toInt64 &&& 63))) := fun z => by
        rw [nI_1]
        refine ih (b + 1) _ (by omega) (by omega) (fun i => ?_)
        rw [ll_or, ll_two b (by omega), s_or2, hy i]
        by_cases e : i = b
        · subst e
          rw [z]
          simp
        · have e2 : ¬ b = i := fun w => e w.symm
          rw [show decide (i < b + 1) = decide (i < b) from decide_eq_decide.mpr (by omega)]
          simp [e2]
      have core : ∀ (x1 x2 : Nat), x1 < n → x2 < n → (cnX (fun j => ll (fa j)) tr (ll v14) s x b = ((ll v14).testBit x && (ll (fa (3 * x1 + s))).testBit x2)) → (vp_in (((3 : Int32) * (nI x1)) + (nI s)) na ∧ (∀ J21 : Int32 → Prop, (∀ (j22 : Int32), (∀ J23 : Int32 → Prop, (∀ (j24 : Int32), ((j24 = 0 → (wpl_X11_next_15 fa na (nI x) (nI n) v14 (nI s) v16 K nf (nI b + (1 : Int32)) y)) ∧ (¬ j24 = 0 → ((¬ (lg_cmp ((v14 >>> ((nI x).toInt64 &&& 63)) &&& (1 : Int64)) (1 : Int64)) = 0 → (wpl_X11_next_15 fa na (nI x) (nI n) v14 (nI s) v16 K nf (nI b + (1 : Int32)) y)) ∧ ((lg_cmp ((v14 >>> ((nI x).toInt64 &&& 63)) &&& (1 : Int64)) (1 : Int64)) = 0 → (wpl_X11_next_15 fa na (nI x) (nI n) v14 (nI s) v16 K nf (nI b + (1 : Int32)) (y ||| ((1 : Int64) <<< ((nI b).toInt64 &&& 63)))))))) → J23 j24) → ((¬ (lg_cmp (((fa (((3 : Int32) * (nI x1)) + (nI s)).toNatClampNeg) >>> (j22.toInt64 &&& 63)) &&& (1 : Int64)) (1 : Int64)) = 0 → (J23 (0 : Int32))) ∧ ((lg_cmp (((fa (((3 : Int32) * (nI x1)) + (nI s)).toNatClampNeg) >>> (j22.toInt64 &&& 63)) &&& (1 : Int64)) (1 : Int64)) = 0 → (J23 (1 : Int32))))) → J21 j22) → J21 (nI x2))) := by
        intro x1 x2 h1 h2 hc
        rw [show (3 : Int32) = nI 3 from rfl, s_mul, nI_add, nI_clamp (by omega)]
        refine ⟨s_in (by omega) (by omega), fun J21 hJ21 => hJ21 _ (fun J23 hJ23 => ?_)⟩
        rw [s_isInL (by omega)]
        refine ⟨fun z => hJ23 0 ⟨fun _ => go0 ?_, fun w => absurd rfl w⟩, fun z => hJ23 1 ⟨fun w => absurd w (by decide), fun _ => ?_⟩⟩
        · rw [hc, show (ll (fa (3 * x1 + s))).testBit x2 = false by simpa using z]
          simp
        · rw [s_isInL (by omega)]
          refine ⟨fun w => go0 ?_, fun w => go1 ?_⟩
          · rw [hc, show (ll v14).testBit x = false by simpa using w]
            simp
          · rw [hc, w, z]
            rfl
      intro J18 hJ18
      refine ⟨fun z => hJ18 _ ?_, fun z => hJ18 _ ?_⟩
      · have etr := htr.mp z
        obtain ⟨g1, g2⟩ := core x b hx (by omega) (by rw [cnX, etr]; rfl)
        exact ⟨g1, fun J21 hJ21 => ⟨fun _ => g2 J21 hJ21, fun w => absurd z w⟩⟩
      · have etr : tr = true := by
          cases tr with
          | true => rfl
          | false => exact absurd (htr.mpr rfl) z
        obtain ⟨g1, g2⟩ := core b x (by omega) hx (by rw [cnX, etr]; rfl)
        exact ⟨g1, fun J21 hJ21 => ⟨fun w => absurd w z, fun _ => g2 J21 hJ21⟩⟩
  have L1 : ∀ (nf x : Nat) (y : Int64), n - x < nf → x ≤ n → (∀ i, (ll y).testBit i = (decide (i < n) && NX (fun j => ll (fa j)) tr (ll v14) s x i)) → wpl_X11_next_6 fa na (nI n) v14 (nI s) v16 Q nf (nI x) y := by
    intro nf
    induction nf with
    | zero => intro x y hk; exact absurd hk (Nat.not_lt_zero _)
    | succ nf ih =>
      intro x y hk hx hy
      refine ⟨fun q => ?_, fun q => ?_⟩
      · rw [nI_leI (by omega) (by omega)] at q
        rw [show x = n by omega] at hy
        exact h y (s_ext (fun i => by rw [hy i, fX, bitsN_bit]))
      rw [nI_leI (by omega) (by omega)] at q
      have g := L2 x (fun u => wpl_X11_next_6 fa na (nI n) v14 (nI s) v16 Q nf (nI x + (1 : Int32)) u) (by omega) (fun u hu => by rw [nI_1]; exact ih (x + 1) u (by omega) (by omega) hu) (n + 1) 0 y (by omega) (by omega) (fun i => by rw [hy i]; simp)
      rw [nI_0] at g
      exact ⟨_, g⟩
  have g := L1 (n + 1) 0 0 (by omega) (by omega) (fun i => by rw [ll_0, NX]; simp)
  rw [nI_0] at g
  exact ⟨_, g⟩
/-- the array f of n numbers holds the one-way machine D -/
def HF (nf : Nat) (f : Nat → Int32) (D : DF) : Prop := 1 ≤ D.1 ∧ D.1 ≤ 32 ∧ (∀ j, j < 3 * D.1 → D.2.1 j < D.1) ∧ nf = 4 * D.1 ∧ (∀ i s, i < D.1 → s < 3 → f (4 * i + s) = nI (D.2.1 (3 * i + s))) ∧ ∀ i, i < D.1 → f (4 * i + 3) = bi (D.2.2 i)
theorem rr_part {f : Nat → Int32} {nf z : Nat} {Q : Nat → (Nat → Int32) → Prop} (hz : z ≤ 128) (hnf : z ≤ nf) (h : ∀ f' : Nat → Int32, (∀ j, j < z → f' j = f j) → Q z f') : wp_X11_part nf f (nI z) Q := by
  have L : ∀ (k i : Nat) (f7 : Nat → Int32), z - i < k → i ≤ z → (∀ j, j < i → f7 j = f j) → wpl_X11_part_6 f nf z (nI z) Q k (nI i) f7 := by
    intro k
    induction k with
    | zero => intro i f7 hk; exact absurd hk (Nat.not_lt_zero _)
    | succ k ih =>
      intro i f7 hk hi hf
      refine ⟨fun q => ?_, fun q => ?_⟩
      · rw [nI_leI (by omega) (by omega)] at q
        exact h f7 (fun j hj => hf j (by omega))
      rw [nI_leI (by omega) (by omega)] at q
      rw [nI_clamp (by omega), nI_1]
      refine ⟨s_in (by omega) (by omega), s_in (by omega) (by omega), ih (i + 1) _ (by omega) (by omega) (fun j hj => ?_)⟩
      by_cases e : j = i
      · rw [e, upd_at]
      · rw [upd_ne e]
        exact hf j (by omega)
  have g := L (z + 1) 0 (fun _ => 0) (by omega) (Nat.zero_le _) (fun j hj => absurd hj (Nat.not_lt_zero _))
  rw [nI_0] at g
  unfold wp_X11_part
  rw [nI_clamp (by omega)]
  exact ⟨⟨nI_pos (by omega), hz⟩, _, g⟩
/-- where the reference's exploring stands: the sets, the rows -/
def RO (f : Nat → Nat → Nat) (gl : Nat → Bool) (R : Option (List Nat × List Nat)) (L T : List Nat) (a' : Nat) (fs : Nat → Int64) (fm : Nat → Int32) : Prop := EI 32 f (fun _ => false) R L T ∧ (∀ i, i < L.length → ll (fs i) = L.getD i 0) ∧ (∀ j, j < T.length → fm (4 * (j / 3) + j % 3) = nI (T.getD j 0)) ∧ ∀ i, i < a' → fm (4 * i + 3) = bi (gl (L.getD i 0))
variable {f : Nat → Nat → Nat} {gl : Nat → Bool} {R : Option (List Nat × List Nat)} {L T : List Nat} {a' : Nat}
theorem rr_ow105 {fs : Nat → Int64} {fm : Nat → Int32} {y v46 v47 : Int64} {v42 v43 v45 v48 : Int32} {K : Int32 → Prop} (hl : L.length ≤ 32) (hs : ∀ i, i < L.length → ll (fs i) = L.getD i 0) (h : K (nI (L.idxOf (ll y)))) : ∃ n, wpl_X11_oneWay_105 fa na fs 32 fm 128 y v42 v43 (nI L.length) v45 v46 v47 v48 K n 0 := by
  have go : ∀ (k i : Nat), L.length - i < k → i ≤ L.length → (∀ j, j < i → L.getD j 0 ≠ ll y) → wpl_X11_oneWay_105 fa na fs 32 fm 128 y v42 v43 (nI L.length) v45 v46 v47 v48 K k (nI i) := by
    intro k
    induction k with
    | zero => intro i hk; exact absurd hk (Nat.not_lt_zero _)
    | succ k ih =>
      intro i hk hi hno
      refine ⟨fun q => ?_, fun q => ?_⟩
      · rw [nI_leI (by omega) (by omega)] at q
        have e : i = L.length := by omega
        have nm : ll y ∉ L := not_mem_of (fun j hj => hno j (by omega))
        rw [List.idxOf_eq_length nm] at h
        rw [e]
        exact h
      rw [nI_leI (by omega) (by omega)] at q
      refine ⟨s_in (by omega) (by omega), ?_⟩
      rw [nI_clamp (by omega), lg_cmp_eq, ll_eq, hs i (by omega), nI_1]
      refine ⟨fun z => ?_, fun z => ih (i + 1) (by omega) (by omega) (fun j hj => ?_)⟩
      · rw [idx_of (by omega) z hno] at h
        exact h
      · by_cases e : j = i
        · rw [e]; exact z
        · exact hno j (by omega)
  have g := go (L.length + 1) 0 (by omega) (by omega) (fun j hj => absurd hj (Nat.not_lt_zero _))
  rw [nI_0] at g
  exact ⟨_, g⟩
theorem rr_ow80 {x : Nat} {v31 v32 : Int64} {v33 : Int32} {tr : Bool} {K : Int32 → (Nat → Int64) → (Nat → Int32) → Prop} {Q : Option AI → Prop} (hn : 3 * n ≤ na) (h32 : n ≤ 32) (htr : v33 = 0 ↔ tr = false) (hf : f = fX n (fun j => ll (fa j)) tr)
    (hK : ∀ (L T : List Nat) (fs : Nat → Int64) (fm : Nat → Int32), T.length = 3 * (x + 1) → x < L.length → RO f gl R L T (x + 1) fs fm → K (nI L.length) fs fm) (hQ : R = none → Q none) :
    ∀ (k b : Nat) (L T : List Nat) (fs : Nat → Int64) (fm : Nat → Int32), 3 - b < k → b ≤ 3 → T.length = 3 * x + b → x < L.length → RO f gl R L T (x + 1) fs fm → wpl_X11_oneWay_80 fa na 32 128 (nI x) (nI n) v31 v32 v33 K Q k (nI b) (nI L.length) fs fm := by
  intro k
  induction k with
  | zero => intro b L T fs fm hk; exact absurd hk (Nat.not_lt_zero _)
  | succ k ih =>
    intro b L T fs fm hk hb hT hx hO
    have hO' := hO
    obtain ⟨h1, h2, h3, h4⟩ := hO'
    have hL := h1.2.1
    refine ⟨fun q => ?_, fun q => ?_⟩
    · rw [show (3 : Int32) = nI 3 from rfl, nI_leI (by omega) (by omega)] at q
      exact hK L T fs fm (by omega) hx hO
    rw [show (3 : Int32) = nI 3 from rfl, nI_leI (by omega) (by omega)] at q
    have hd : ¬ (3 * L.length ≤ T.length ∨ false = true) := fun z => z.elim (fun z => by omega) (fun z => by cases z)
    refine ⟨s_in (by omega) (by omega), ?_⟩
    rw [nI_clamp (by omega)]
    refine rr_next hn h32 (by omega) htr (fun y hy => ?_)
    rw [h2 x hx, ← hf] at hy
    have hy' : ll y = nxt f L T := by rw [hy, nxt, hT, show (3 * x + b) / 3 = x by omega, show (3 * x + b) % 3 = b by omega]
    refine rr_ow105 hL h2 ?_
    rw [hy']
    have p4 : (4 : Int32) * nI x + nI b = nI (4 * x + b) := by rw [show (4 : Int32) = nI 4 from rfl, s_mul, nI_add]
    have i4 : vp_in ((4 : Int32) * nI x + nI b) 128 := by rw [p4]; exact s_in (by omega) (by omega)
    have mk : ∀ (z : Nat) (L2 : List Nat) (j : Nat), j < (T ++ [z]).length → (upd fm (4 * x + b) (nI z)) (4 * (j / 3) + j % 3) = nI ((T ++ [z]).getD j 0) := fun z L2 j hj => by
      rw [List.length_append] at hj
      simp at hj
      by_cases e : j = T.length
      · rw [e, getD_new, show 4 * (T.length / 3) + T.length % 3 = 4 * x + b by omega, upd_at]
      · rw [upd_ne (by omega), getD_app (by omega)]
        exact h3 j (by omega)
    by_cases m : nxt f L T ∈ L
    · have il := idx_lt m
      refine ⟨fun _ J hJ => ⟨fun _ => hJ _ _ ⟨i4, ?_⟩, fun z => absurd ((nI_eq (by omega) (by omega)).mp z) (by omega)⟩, fun z => absurd ((nI_eq (b := 32) (by omega) (by omega)).mp z) (by omega)⟩
      rw [p4, nI_clamp (by omega), nI_1]
      exact ih (b + 1) L (T ++ [L.idxOf (nxt f L T)]) fs _ (by omega) (by omega) (by rw [List.length_append]; simp; omega) hx ⟨h1.old hd m, h2, mk _ L, fun i hi => by rw [upd_ne (by omega)]; exact h4 i hi⟩
    · rw [List.idxOf_eq_length m]
      by_cases hl : 32 ≤ L.length
      · refine ⟨fun z => absurd (show nI L.length = (32 : Int32) by rw [show L.length = 32 by omega]; rfl) z, fun _ => hQ (h1.full hd m hl)⟩
      · refine ⟨fun _ J hJ => ⟨fun z => absurd rfl z, fun _ => ⟨s_in (by omega) (by omega), hJ _ _ ⟨i4, ?_⟩⟩⟩, fun z => absurd ((nI_eq (b := 32) (by omega) (by omega)).mp z) (by omega)⟩
        rw [p4, nI_clamp (by omega), nI_clamp (by omega), nI_1, nI_1]
        have g := ih (b + 1) (L ++ [nxt f L T]) (T ++ [L.length]) (vp_updL fs L.length y) (upd fm (4 * x + b) (nI L.length)) (by omega) (by omega) (by rw [List.length_append]; simp; omega) (by rw [List.length_append]; simp; omega) ⟨h1.new hd m hl, fun i hi => ?_, mk _ L, fun i hi => by rw [upd_ne (by omega), getD_app (by omega)]; exact h4 i hi⟩
        · rw [List.length_append] at g
          exact g
        · rw [List.length_append] at hi
          simp at hi
          by_cases e : i = L.length
          · rw [e, pk_uLs, getD_new]; exact hy'
          · rw [pk_uLn e, getD_app (by omega)]
            exact h2 i (by omega)
theorem rr_ow34 {v12 v13 : Int64} {v14 : Int32} {tr : Bool} {K : Int32 → (Nat → Int32) → Prop} {Q : Option AI → Prop} (hn : 3 * n ≤ na) (h32 : n ≤ 32) (htr : v14 = 0 ↔ tr = false) (hf : f = fX n (fun j => ll (fa j)) tr) (hgl : gl = fun S => decide (S &&& (if tr = true then ll v12 else ll v13) ≠ 0))
    (hK : ∀ (L T : List Nat) (fs : Nat → Int64) (fm : Nat → Int32), R = some (L, T) → T.length = 3 * L.length → RO f gl R L T L.length fs fm → K (nI L.length) fm) (hQ : R = none → Q none) :
    ∀ (k x : Nat) (L T : List Nat) (fs : Nat → Int64) (fm : Nat → Int32), 32 - x < k → x ≤ L.length → T.length = 3 * x → RO f gl R L T x fs fm → wpl_X11_oneWay_34 fa na 32 128 (nI n) v12 v13 v14 K Q k (nI x) (nI L.length) fm fs := by
  intro k
  induction k with
  | zero => intro x L T fs fm hk; exact absurd hk (Nat.not_lt_zero _)
  | succ k ih =>
    intro x L T fs fm hk hx hT hO
    have hO' := hO
    obtain ⟨h1, h2, h3, h4⟩ := hO'
    have hL := h1.2.1
    refine ⟨fun q => ?_, fun q => ?_⟩
    · rw [nI_leI (by omega) (by omega)] at q
      have e : x = L.length := by omega
      rw [e] at hO hT
      exact hK L T fs fm (h1.done (Or.inl (by omega))) hT hO
    rw [nI_leI (by omega) (by omega)] at q
    have p4 : (4 : Int32) * nI x + (3 : Int32) = nI (4 * x + 3) := by rw [show (4 : Int32) = nI 4 from rfl, show (3 : Int32) = nI 3 from rfl, s_mul, nI_add]
    have i4 : vp_in ((4 : Int32) * nI x + (3 : Int32)) 128 := by rw [p4]; exact s_in (by omega) (by omega)
    have im : (nI x).toNatClampNeg = x := nI_clamp (by omega)
    have key : ∀ j : Int32, j = bi (gl (L.getD x 0)) → (vp_in (((4 : Int32) * (nI x)) + (3 : Int32)) 128 ∧ (∃ n25x, wpl_X11_oneWay_80 fa na 32 128 (nI x) (nI n) v12 v13 v14 (fun (u62 : Int32) (f63 : Nat → Int64) (f64 : Nat → Int32) => wpl_X11_oneWay_34 fa na 32 128 (nI n) v12 v13 v14 K Q k (nI x + (1 : Int32)) u62 f64 f63) Q n25x (0 : Int32) (nI L.length) fs (upd fm (((4 : Int32) * (nI x)) + (3 : Int32)).toNatClampNeg j))) := fun j hj => by
      refine ⟨i4, ?_⟩
      rw [p4, nI_clamp (by omega)]
      have g := rr_ow80 (x := x) (gl := gl) (R := R) (v31 := v12) (v32 := v13) (v33 := v14) (K := fun (u62 : Int32) (f63 : Nat → Int64) (f64 : Nat → Int32) => wpl_X11_oneWay_34 fa na 32 128 (nI n) v12 v13 v14 K Q k (nI x + (1 : Int32)) u62 f64 f63) (Q := Q) hn h32 htr hf (fun L9 T9 fs9 fm9 z1 z2 z3 => by rw [nI_1]; exact ih (x + 1) L9 T9 fs9 fm9 (by omega) (by omega) z1 z3) hQ 4 0 L T fs (upd fm (4 * x + 3) j) (by omega) (by omega) hT (by omega) ⟨h1, h2, fun j' hj' => by rw [upd_ne (by omega)]; exact h3 j' hj', fun i hi => by
        by_cases e : i = x
        · rw [e, upd_at, hj]
        · rw [upd_ne (by omega)]; exact h4 i (by omega)⟩
      rw [nI_0] at g
      exact ⟨_, g⟩
    refine ⟨s_in (by omega) (by omega), fun J21 hJ21 => ?_⟩
    rw [im] at hJ21
    have lvl : ∀ G : Int64, gl (L.getD x 0) = decide (L.getD x 0 &&& ll G ≠ 0) → J21 G := fun G hG => hJ21 G (fun J23 hJ23 => by
      have eq : (lg_cmp ((fs x) &&& G) (0 : Int64) = 0) ↔ (L.getD x 0 &&& ll G = 0) := by rw [lg_cmp_eq, ll_eq, ll_and, ll_0, h2 x (by omega)]
      refine ⟨fun z => hJ23 0 (key 0 ?_), fun z => hJ23 1 (key 1 ?_)⟩
      · rw [hG, decide_eq_false (fun w => w (eq.mp z))]; rfl
      · rw [hG, show decide (L.getD x 0 &&& ll G ≠ 0) = true from decide_eq_true (fun w => z (eq.mpr w))]; rfl)
    refine ⟨fun z => lvl v13 ?_, fun z => lvl v12 ?_⟩
    · rw [hgl, if_neg (by rw [htr.mp z]; decide)]
    · have etr : tr = true := by
        cases tr with
        | true => rfl
        | false => exact absurd (htr.mpr rfl) z
      rw [hgl, if_pos etr]
/-- the one-way one, the reference's way -/
def OWX (n : Nat) (c : Nat → Nat) (tr : Bool) (first last : Nat) : Option DF := (EX 32 (fX n c tr) (fun _ => false) (if tr = true then last else first)).map (fun p => DFo p.1 p.2 (fun S => decide (S &&& (if tr = true then first else last) ≠ 0)))
theorem rr_oneWay {first last : Int64} {v : Int32} {tr : Bool} {Q : Option AI → Prop} (hn : 3 * n ≤ na) (h32 : n ≤ 32) (htr : v = 0 ↔ tr = false) (h1 : ∀ (D : DF) (nf : Nat) (g : Nat → Int32), OWX n (fun j => ll (fa j)) tr (ll first) (ll last) = some D → HF nf g D → Q (some (nf, g))) (h0 : OWX n (fun j => ll (fa j)) tr (ll first) (ll last) = none → Q none) : wp_X11_oneWay na fa (nI n) first last v Q := by
  have start : ∀ (j6 : Int64), ll j6 = (if tr = true then ll last else ll first) → (vp_in (0 : Int32) ((32 : Int32).toNatClampNeg) ∧ (∃ n7x, wpl_X11_oneWay_34 fa na ((32 : Int32).toNatClampNeg) ((128 : Int32).toNatClampNeg) (nI n) first last v (fun (u68 : Int32) (f69 : Nat → Int32) => wp_X11_part ((128 : Int32).toNatClampNeg) f69 ((4 : Int32) * u68) (fun (n71 : Nat) (f72 : Nat → Int32) => Q (some (n71, f72)))) Q n7x (0 : Int32) (1 : Int32) (fun _ => 0) (vp_updL (fun _ => 0) (0 : Int32).toNatClampNeg j6))) := fun j6 hj6 => by
    refine ⟨s_in (a := 0) (show 0 < 32 by omega) (by omega), ?_⟩
    have g := rr_ow34 (fa := fa) (na := na) (f := fX n (fun j => ll (fa j)) tr) (gl := fun S => decide (S &&& (if tr = true then ll first else ll last) ≠ 0)) (R := EX 32 (fX n (fun j => ll (fa j)) tr) (fun _ => false) (ll j6)) (v12 := first) (v13 := last) (v14 := v) (K := fun (u68 : Int32) (f69 : Nat → Int32) => wp_X11_part 128 f69 ((4 : Int32) * u68) (fun (n71 : Nat) (f72 : Nat → Int32) => Q (some (n71, f72)))) (Q := Q) hn h32 htr rfl rfl (fun L T fs fm hR hT hO => by
      obtain ⟨e1, e2, e3, e4⟩ := hO
      have hL := e1.2.1
      rw [show (4 : Int32) = nI 4 from rfl, s_mul]
      refine rr_part (by omega) (by omega) (fun f' hf' => h1 (DFo L T (fun S => decide (S &&& (if tr = true then ll first else ll last) ≠ 0))) (4 * L.length) f' (by rw [OWX, ← hj6, hR]; rfl) ⟨e1.2.2.1, e1.2.1, fun j hj => ?_, rfl, fun i s hi hs => ?_, fun i hi => ?_⟩)
      · have hj' : j < 3 * L.length := hj
        exact (e1.2.2.2.2 j (by omega)).1
      · have hi' : i < L.length := hi
        rw [hf' _ (by omega)]
        have := e3 (3 * i + s) (by omega)
        rw [show (3 * i + s) / 3 = i by omega, show (3 * i + s) % 3 = s by omega] at this
        exact this
      · have hi' : i < L.length := hi
        rw [hf' _ (by omega)]
        exact e4 i hi') (fun hR => h0 (by rw [OWX, ← hj6, hR]; rfl)) 33 0 [ll j6] [] (vp_updL (fun _ => 0) 0 j6) (fun _ => 0) (by omega) (by omega) rfl ⟨EI.start _ (by omega), fun i hi => ?_, fun j hj => absurd hj (Nat.not_lt_zero _), fun i hi => absurd hi (Nat.not_lt_zero _)⟩
    · rw [nI_0] at g
      exact ⟨_, g⟩
    · simp at hi
      subst hi
      rw [pk_uLs]
      rfl
  refine ⟨by decide, by decide, fun J hJ => ⟨fun z => hJ _ (start first ?_), fun z => hJ _ (start last ?_)⟩⟩
  · rw [if_neg (by rw [htr.mp z]; decide)]
  · have etr : tr = true := by
      cases tr with
      | true => rfl
      | false => exact absurd (htr.mpr rfl) z
    rw [if_pos etr]
end SRI
end
/-! part 9saj.ref5 -/
section
section SRJ
variable {ν : TMem} {S : Nat → AM} {a r k t : Int32} {a1 : Int32} {Q : Int32 → TMem → Prop} {Qi : Int32 → Prop} {Qo : Option AI → Prop} {m : Nat} {A : AM} {D : DF} {na : Nat} {fa : Nat → Int32} {n : Nat}
theorem RCg_bit {c : Nat → Nat} {X s i : Nat} : ∀ z, (RCg c X s z).testBit i = (List.range z).any (fun f => X.testBit f && (c (3 * f + s)).testBit i) := by
  intro z
  induction z with
  | zero => rw [RCg]; simp
  | succ z ih =>
    rw [RCg, List.range_succ, List.any_append, ← ih]
    by_cases e : X.testBit z = true
    · rw [if_pos e, Nat.testBit_or]; simp [e]
    · rw [if_neg e]; simp [e]
theorem any_congr {z : Nat} {p q : Nat → Bool} (h : ∀ f, f < z → p f = q f) : (List.range z).any p = (List.range z).any q := by
  rw [Bool.eq_iff_iff, List.any_eq_true, List.any_eq_true]
  constructor
  · rintro ⟨x, hx, hp⟩
    exact ⟨x, hx, by rw [← h x (List.mem_range.mp hx)]; exact hp⟩
  · rintro ⟨x, hx, hp⟩
    exact ⟨x, hx, by rw [h x (List.mem_range.mp hx)]; exact hp⟩
theorem any_false {z : Nat} {p : Nat → Bool} (h : ∀ f, f < z → p f = false) : (List.range z).any p = false := by
  rw [any_congr (q := fun _ => false) h]
  induction z with
  | zero => rfl
  | succ z ih => rw [List.range_succ, List.any_append]; simp
theorem fX_RC {c c' : Nat → Nat} {X s : Nat} (hs : s < 3) (h : ∀ j, j < 3 * n → c j = c' j) (hb : ∀ j, j < 3 * n → c' j < 2 ^ n) : fX n c false X s = RC n c' X s := by
  refine s_ext (fun i => ?_)
  rw [fX, bitsN_bit, RC, RCg_bit, NX]
  by_cases e : i < n
  · rw [decide_eq_true e, Bool.true_and]
    exact any_congr (fun f hf => by rw [cnX]; simp only [Bool.false_eq_true, if_false]; rw [h _ (by omega)])
  · rw [decide_eq_false e, Bool.false_and]
    exact (any_false (fun f hf => by rw [s_big (hb (3 * f + s) (by omega)) (by omega)]; simp)).symm
theorem OWX_OWD {c c' : Nat → Nat} {st G : Nat} (h : ∀ j, j < 3 * n → c j = c' j) (hb : ∀ j, j < 3 * n → c' j < 2 ^ n) : OWX n c false st G = OWD n c' st G := by
  rw [OWX, OWD, EX, EX, EXs_congr (f := fX n c false) (f' := RC n c') (fun x s hs => fX_RC hs h hb)]
  simp only [Bool.false_eq_true, if_false]
theorem rr_arrowsAll {Qa : Nat → (Nat → Int64) → Prop} (hm : m < 4) (hR : HR ν m A) (h : ∀ f : Nat → Int64, (∀ j, j < 21 → f j = (A.2.2.2 j).toInt64) → Qa 21 f) : wp_X11_arrowsAll ν (nI m) Qa := by
  have L : ∀ (z i : Nat) (f : Nat → Int64), 21 - i < z → i ≤ 21 → (∀ j, j < i → f j = (A.2.2.2 j).toInt64) → wpl_X11_arrowsAll_7 ν 21 (nI m) Qa z (nI i) f := by
    intro z
    induction z with
    | zero => intro i f hk; exact absurd hk (Nat.not_lt_zero _)
    | succ z ih =>
      intro i f hk hi hf
      refine ⟨fun q => ?_, fun q => rr_key0 ?_⟩
      · rw [show (21 : Int32) = nI 21 from rfl, nI_leI (by omega) (by omega)] at q
        exact h f (fun j hj => hf j (by omega))
      rw [show (21 : Int32) = nI 21 from rfl, nI_leI (by omega) (by omega)] at q
      rw [nI_add, nI_clamp (by omega), nI_clamp (by omega), hR.2.2.2 i (by omega), nI_1]
      refine ⟨s_in (show _ < 84 by omega) (by omega), s_in (by omega) (by omega), ih (i + 1) _ (by omega) (by omega) (fun j hj => ?_)⟩
      by_cases e : j = i
      · rw [e, pk_uLs]
      · rw [pk_uLn e]; exact hf j (by omega)
  have g := L 22 0 (fun _ => 0) (by omega) (by omega) (fun j hj => absurd hj (Nat.not_lt_zero _))
  rw [nI_0] at g
  exact ⟨by decide, _, g⟩
theorem p7 {z n : Nat} (h : z < 2 ^ n) (hn : n ≤ 7) : z < 128 := Nat.lt_of_lt_of_le h (Nat.pow_le_pow_right (by decide) hn)
theorem rr_oneWayA (hm : m < 4) (hR : HR ν m A) (hv : AV A) (h1 : ∀ (D : DF) (nf : Nat) (g : Nat → Int32), OWM A = some D → HF nf g D → Qo (some (nf, g))) (h0 : OWM A = none → Qo none) : wp_X11_oneWay_ ν (nI m) Qo := by
  obtain ⟨v1, v7, vs, vg, vc, vz⟩ := hv
  refine rr_arrowsAll hm hR (fun f hf => ⟨s_in hm (by omega), s_in hm (by omega), s_in hm (by omega), ?_⟩)
  rw [nI_clamp (by omega), hR.1, hR.2.1, hR.2.2.1]
  have eo : OWX A.1 (fun j => ll (f j)) false (ll A.2.1.toInt64) (ll A.2.2.1.toInt64) = OWM A := by
    have q1 := p7 vs v7
    have q2 := p7 vg v7
    rw [ll_toInt64 (by omega), ll_toInt64 (by omega)]
    exact OWX_OWD (c' := fun j => nn (A.2.2.2 j)) (fun j hj => by have := p7 (vc j hj) v7; rw [hf j (by omega), ll_toInt64 (by omega)]) vc
  refine rr_oneWay (tr := false) (by omega) (by omega) ⟨fun _ => rfl, fun _ => rfl⟩ (fun D nf g e hF => ⟨(fun z => nomatch z), fun n10 f11 z => ?_⟩) (fun e => ⟨fun _ => h0 (by rw [← eo]; exact e), fun _ _ z => nomatch z⟩)
  cases z
  exact h1 D nf g (by rw [← eo]; exact e) hF
theorem SR_fX {c : Nat → Nat} {d : Nat → Int32} {x s : Nat} (hx : x < n) (hn : n ≤ 32) (hs : s < 3) (h : ∀ j, j < 3 * n → c j = nn (d j)) : fX n c true (2 ^ x) s = nn (SRg d x s n) := by
  refine s_ext (fun i => ?_)
  rw [fX, bitsN_bit, SRg_bit n hn]
  by_cases e : i < n
  · rw [decide_eq_true e, Bool.true_and, Bool.true_and, NX, ← h _ (by omega), Bool.eq_iff_iff, List.any_eq_true]
    constructor
    · rintro ⟨f, hf, hp⟩
      rw [cnX, Nat.testBit_two_pow] at hp
      simp at hp
      rw [hp.1]
      exact hp.2
    · intro hp
      refine ⟨x, List.mem_range.mpr hx, ?_⟩
      rw [cnX, Nat.testBit_two_pow]
      simpa using hp
  · rw [decide_eq_false e, Bool.false_and, Bool.false_and]
theorem l_of {y : Int64} (h : ll y < 2 ^ 31) : y.toInt32 = nI (ll y) := by
  have e : y = lN (ll y) := ll_inj (by
    show _ = (BitVec.ofNat 64 (ll y)).toNat
    rw [BitVec.toNat_ofNat]
    exact (Nat.mod_eq_of_lt (by omega)).symm)
  rw [e, lN_i, ← e]
theorem SRg_lt {d : Nat → Int32} {x s : Nat} (hn : n ≤ 32) : nn (SRg d x s n) < 2 ^ n := s_lt2 (fun i hi => by rw [SRg_bit n hn, decide_eq_false (by omega), Bool.false_and])
theorem rr_turn (h : RSt ν S a r k t) (hv : AVs S) (hok : ∀ m, m < 4 → a1 = nI m → ∀ ν9, RSt ν9 (sUp S m (aT (S m))) (a + 1) r k 0 → Q (AC (aT (S m))) ν9) (h1 : ¬ M1 a1 → ∀ b ν9, RSt ν9 S a r k 1 → Q b ν9) : wp_X11_turn ν a1 Q := by
  refine rr_one (fun m hm em => th_ok ⟨fun _ => ?_, fun q => absurd rfl q⟩) (fun z => th_1 ⟨fun q => absurd q (by decide), fun _ => h1 z _ _ (h.thr 1)⟩)
  have h0 := h.thr 0
  have hR := h0.1 m hm
  have hok' := hok m hm em
  have vA := hv m hm
  have im : (nI m).toNatClampNeg = m := nI_clamp (by omega)
  rw [em]
  generalize hN : tms ν 0 7 0 = N at *
  generalize hA : S m = A at *
  obtain ⟨v1, v7, vs, vg, vc, vz⟩ := vA
  refine rr_arrowsAll hm hR (fun f hf => ?_)
  obtain ⟨b1, b2, b3, b4⟩ := hR
  have cc : ∀ j, j < 3 * A.1 → ll (f j) = nn (A.2.2.2 j) := fun j hj => by
    have := p7 (vc j hj) v7
    rw [hf j (by omega), ll_toInt64 (by omega)]
  have L2 : ∀ (x : Nat) (K : TMem → Prop), x < A.1 → (∀ ν1, RW m N (fun j => SRg A.2.2.2 (j / 3) (j % 3) A.1) (3 * x + 3) ν1 → K ν1) → ∀ (z b : Nat) (ν1 : TMem), 3 - b < z → b ≤ 3 → RW m N (fun j => SRg A.2.2.2 (j / 3) (j % 3) A.1) (3 * x + b) ν1 → wpl_X11_turn_35 f 21 (nI x) (nI m) K z (nI b) ν1 := by
    intro x K hx hK z
    induction z with
    | zero => intro b ν1 hk; exact absurd hk (Nat.not_lt_zero _)
    | succ z ih =>
      intro b ν1 hk hb hW
      refine ⟨fun q => ?_, fun q => rr_key ⟨s_in hm (by omega), ?_⟩⟩
      · rw [show (3 : Int32) = nI 3 from rfl, nI_leI (by omega) (by omega)] at q
        rw [show 3 * x + b = 3 * x + 3 by omega] at hW
        exact hK ν1 hW
      rw [show (3 : Int32) = nI 3 from rfl, nI_leI (by omega) (by omega)] at q
      rw [im, hW.2.2 1 (by decide), b1]
      refine rr_next (tr := true) (by omega) (by omega) (by omega) (by decide) (fun y hy => ⟨s_in (show _ < 84 by omega) (by omega), ?_⟩)
      rw [ll_two x (by omega), SR_fX hx (by omega) (by omega) cc] at hy
      have ly : ll y < 128 := by rw [hy]; exact p7 (SRg_lt (by omega)) v7
      have ey : y.toInt32 = (fun j => SRg A.2.2.2 (j / 3) (j % 3) A.1) (3 * x + b) := by
        rw [l_of (by omega)]
        show _ = SRg A.2.2.2 ((3 * x + b) / 3) ((3 * x + b) % 3) A.1
        rw [show (3 * x + b) / 3 = x by omega, show (3 * x + b) % 3 = b by omega]
        refine nn_inj ?_
        rw [nn_nI (by omega), hy]
      rw [ey, nI_clamp (by omega), Nat.add_assoc, nI_1]
      exact ih (b + 1) _ (by omega) (by omega) hW.step
  have L1 : ∀ (K : TMem → Prop), (∀ ν1, RW m N (fun j => SRg A.2.2.2 (j / 3) (j % 3) A.1) (3 * A.1) ν1 → K ν1) → ∀ (z x : Nat) (ν1 : TMem), A.1 - x < z → x ≤ A.1 → RW m N (fun j => SRg A.2.2.2 (j / 3) (j % 3) A.1) (3 * x) ν1 → wpl_X11_turn_22 f 21 (nI m) K z (nI x) ν1 := by
    intro K hK z
    induction z with
    | zero => intro x ν1 hk; exact absurd hk (Nat.not_lt_zero _)
    | succ z ih =>
      intro x ν1 hk hx hW
      refine ⟨s_in hm (by omega), ?_⟩
      rw [im, hW.2.2 1 (by decide), b1]
      refine ⟨fun q => ?_, fun q => ?_⟩
      · rw [nI_leI (by omega) (by omega)] at q
        rw [show x = A.1 by omega] at hW
        exact hK ν1 hW
      rw [nI_leI (by omega) (by omega)] at q
      have g := L2 x (fun u => wpl_X11_turn_22 f 21 (nI m) K z (nI x + (1 : Int32)) u) (by omega) (fun ν9 h9 => by rw [nI_1]; exact ih (x + 1) ν9 (by omega) (by omega) h9) 4 0 ν1 (by omega) (by omega) hW
      rw [nI_0] at g
      exact ⟨_, g⟩
  have g := L1 (fun (μ29 : TMem) => vp_in (nI m) (ml 2) ∧ (vp_in (nI m) (ml 3) ∧ (vp_in (nI m) (ml 2) ∧ (vp_in (nI m) (ml 3) ∧ (wp_X11_arrowsOf (tms (tms μ29 2 m (μ29 3 m)) 3 m (μ29 2 m)) (nI m) (fun (r36 : Int32) => wp_X11_did (tms (tms μ29 2 m (μ29 3 m)) 3 m (μ29 2 m)) r36 (fun (r38 : Int32) (μ37 : TMem) => Q r38 μ37))))))) (fun N2 w => ?_) (A.1 + 1) 0 N (by omega) (Nat.zero_le _) RW.start
  · rw [nI_0] at g
    rw [im]
    exact ⟨_, g⟩
  refine ⟨s_in hm (by omega), s_in hm (by omega), s_in hm (by omega), s_in hm (by omega), ?_⟩
  have hRT : HR (tms (tms N2 2 m (N2 3 m)) 3 m (N2 2 m)) m (aT A) := ⟨by rw [tms_ne (by decide), tms_ne (by decide), w.2.2 1 (by decide)]; exact b1, by simp [tms_ix, aT, w.2.2 3 (by decide), b3], by simp [tms_ix, aT, w.2.2 2 (by decide), b2], fun j hj => by
    rw [tms_ne (by decide), tms_ne (by decide)]
    show _ = if j < 3 * A.1 then _ else _
    by_cases e : j < 3 * A.1
    · rw [if_pos e]; exact w.1 j e
    · rw [if_neg e, w.2.1 _ (by omega), b4 j hj]; exact vz j (by omega)⟩
  have vT : AV (aT A) := ⟨v1, v7, vg, vs, fun j hj => by
    have hj' : j < 3 * A.1 := hj
    show nn (if j < 3 * A.1 then SRg A.2.2.2 (j / 3) (j % 3) A.1 else 0) < 2 ^ A.1
    rw [if_pos hj']; exact SRg_lt (by omega), fun j hj => by
    have hj' : 3 * A.1 ≤ j := hj
    show (if j < 3 * A.1 then SRg A.2.2.2 (j / 3) (j % 3) A.1 else 0) = 0
    rw [if_neg (by omega)]⟩
  refine rr_arrowsOf hm hRT vT (hok' _ (h0.act hRT ⟨?_, fun i hi => ⟨?_, ?_, ?_⟩, fun p hp => ?_⟩))
  · rw [tms_ne (by decide), tms_ne (by decide), w.2.2 0 (by decide)]
  · simp [tms_ix, w.2.2 1 (by decide)]
  · simp [tms_ix, hi, w.2.2 2 (by decide)]
  · simp [tms_ix, hi, w.2.2 3 (by decide)]
  · rw [tms_ne (by decide), tms_ne (by decide), w.2.1 p (by omega)]
/-- labels that tell the parts of round t -/
def LBt (D : DF) (t : Nat) (f : Nat → Int32) : Prop := (∀ i j, i < D.1 → j < D.1 → (f i = f j ↔ PRT D t i = PRT D t j)) ∧ (1 ≤ t → ∀ i, i < D.1 → f i = nI (PRT D t i))
theorem rr_isLike {fg : Nat → Int32} {i j t : Nat} (hF : HF na fa D) (hl : LBt D t fg) (hi : i < D.1) (hj : j < D.1) (h1 : PRT D (t + 1) i = PRT D (t + 1) j → Qi 1) (h0 : ¬ PRT D (t + 1) i = PRT D (t + 1) j → Qi 0) : wp_X11_isLike na fa D.1 fg (nI i) (nI j) Qi := by
  obtain ⟨d1, d32, dT, dn, df, dg⟩ := hF
  have L : ∀ (z b : Nat) (v : Int32), 3 - b < z → b ≤ 3 → (v = 1 ∧ PRT D t i = PRT D t j ∧ (∀ s, s < b → PRT D t (D.2.1 (3 * i + s)) = PRT D t (D.2.1 (3 * j + s))) ∨ v = 0 ∧ ¬ PRT D (t + 1) i = PRT D (t + 1) j) → wpl_X11_isLike_19 fa na fg D.1 (nI i) (nI j) Qi z (nI b) v := by
    intro z
    induction z with
    | zero => intro b v hk; exact absurd hk (Nat.not_lt_zero _)
    | succ z ih =>
      intro b v hk hb hV
      refine ⟨fun q => ?_, fun q => ?_⟩
      · rw [show (3 : Int32) = nI 3 from rfl, nI_leI (by omega) (by omega)] at q
        rcases hV with ⟨rfl, e1, e2⟩ | ⟨rfl, e⟩
        · exact ⟨Or.inr rfl, h1 (PRT_s.mpr ⟨e1, fun s hs => e2 s (by omega)⟩)⟩
        · exact ⟨Or.inl rfl, h0 e⟩
      rw [show (3 : Int32) = nI 3 from rfl, nI_leI (by omega) (by omega)] at q
      have li := dT (3 * i + b) (by omega)
      have lj := dT (3 * j + b) (by omega)
      rw [show (4 : Int32) = nI 4 from rfl, s_mul, s_mul, nI_add, nI_add, nI_clamp (by omega), nI_clamp (by omega), df i b hi (by omega), df j b hj (by omega), nI_clamp (by omega), nI_clamp (by omega), nI_1]
      refine ⟨s_in (by omega) (by omega), s_in li (by omega), s_in (by omega) (by omega), s_in lj (by omega), fun w => ?_, fun w => ?_⟩
      · refine ih (b + 1) _ (by omega) (by omega) (Or.inr ⟨?_, fun e => w ((hl.1 _ _ li lj).mpr ((PRT_s.mp e).2 b (by omega)))⟩)
        rcases hV with ⟨rfl, _⟩ | ⟨rfl, _⟩ <;> decide
      · refine ih (b + 1) _ (by omega) (by omega) ?_
        rcases hV with ⟨rfl, e1, e2⟩ | ⟨rfl, e⟩
        · refine Or.inl ⟨by decide, e1, fun s hs => ?_⟩
          by_cases y : s = b
          · rw [y]; exact (hl.1 _ _ li lj).mp w
          · exact e2 s (by omega)
        · exact Or.inr ⟨by decide, e⟩
  have go : ∀ v : Int32, (v = 1 ∧ PRT D t i = PRT D t j ∨ v = 0 ∧ ¬ PRT D (t + 1) i = PRT D (t + 1) j) → ∃ n4x, wpl_X11_isLike_19 fa na fg D.1 (nI i) (nI j) Qi n4x (0 : Int32) v := fun v hV => by
    have g := L 4 0 v (by omega) (by omega) (hV.imp (fun z => ⟨z.1, z.2, fun s hs => absurd hs (Nat.not_lt_zero _)⟩) (fun z => z))
    rw [nI_0] at g
    exact ⟨_, g⟩
  refine ⟨s_in hi (by omega), s_in hj (by omega), fun J hJ => ?_⟩
  rw [nI_clamp (by omega), nI_clamp (by omega)]
  refine ⟨fun z => hJ 0 (go 0 (Or.inr ⟨rfl, fun e => z ((hl.1 _ _ hi hj).mpr (PRT_s.mp e).1)⟩)), fun z => hJ 1 (go 1 (Or.inl ⟨rfl, (hl.1 _ _ hi hj).mp z⟩))⟩
theorem rr_alike {Qa : Nat → (Nat → Int32) → Prop} (hF : HF na fa D) (h : ∀ g : Nat → Int32, (∀ i, i < D.1 → g i = nI (PL D i)) → Qa D.1 g) : wp_X11_alike na fa Qa := by
  have hF' := hF
  obtain ⟨d1, d32, dT, dn, df, dg⟩ := hF'
  have ez : nI na / (4 : Int32) = nI D.1 := by rw [show (4 : Int32) = nI 4 from rfl, s_div (by omega) (by omega) (by omega), dn]; congr 1; omega
  have L56 : ∀ (t j : Nat) (fg fn : Nat → Int32) (v31 v32 v33 : Int32) (nn' : Nat) (K : Int32 → Prop), v31 = nI j → LBt D t fg → j < D.1 → K (nI (PRT D (t + 1) j)) → ∀ (z i : Nat), PRT D (t + 1) j - i < z → i ≤ PRT D (t + 1) j → wpl_X11_alike_56 fa na fg D.1 fn nn' v31 v32 v33 K z (nI i) := by
    intro t j fg fn v31 v32 v33 nn' K ev hl hj hK z
    subst ev
    have hle := PRT_le (D := D) (t + 1) j
    induction z with
    | zero => intro i hk; exact absurd hk (Nat.not_lt_zero _)
    | succ z ih =>
      intro i hk hi
      refine rr_isLike hF hl (by omega) hj (fun e => ⟨fun _ => ?_, fun w => absurd w (by decide)⟩) (fun e => ⟨fun w => absurd rfl w, fun _ => ?_⟩)
      · have := PRT_le (D := D) (t + 1) i
        rw [show i = PRT D (t + 1) j by omega]
        exact hK
      · have ne : i ≠ PRT D (t + 1) j := fun q => e (by rw [q, PRT_id])
        rw [nI_1]
        exact ih (i + 1) (by omega) (by omega)
  have L47 : ∀ (t : Nat) (fg : Nat → Int32) (v24 : Int32) (K : (Nat → Int32) → Prop), LBt D t fg → (∀ fn : Nat → Int32, (∀ i, i < D.1 → fn i = nI (PRT D (t + 1) i)) → K fn) → ∀ (z i : Nat) (fn : Nat → Int32), D.1 - i < z → i ≤ D.1 → (∀ j, j < i → fn j = nI (PRT D (t + 1) j)) → wpl_X11_alike_47 fa na fg D.1 D.1 v24 (nI D.1) K z (nI i) fn := by
    intro t fg v24 K hl hK z
    induction z with
    | zero => intro i fn hk; exact absurd hk (Nat.not_lt_zero _)
    | succ z ih =>
      intro i fn hk hi hfn
      refine ⟨fun q => ?_, fun q => ?_⟩
      · rw [nI_leI (by omega) (by omega)] at q
        exact hK fn (fun j hj => hfn j (by omega))
      rw [nI_leI (by omega) (by omega)] at q
      have g := L56 t i fg fn (nI i) v24 (nI D.1) D.1 (fun (u37 : Int32) => vp_in (nI i) D.1 ∧ (wpl_X11_alike_47 fa na fg D.1 D.1 v24 (nI D.1) K z (nI i + (1 : Int32)) (upd fn (nI i).toNatClampNeg u37))) rfl hl (by omega) ⟨s_in (by omega) (by omega), by
        rw [nI_1, nI_clamp (by omega)]
        refine ih (i + 1) _ (by omega) (by omega) (fun j hj => ?_)
        by_cases e : j = i
        · rw [e, upd_at]
        · rw [upd_ne e]; exact hfn j (by omega)⟩ (PRT D (t + 1) i + 1) 0 (by omega) (Nat.zero_le _)
      rw [nI_0] at g
      exact ⟨_, g⟩
  have L34 : ∀ (z t : Nat) (fg : Nat → Int32), D.1 - t < z → t ≤ D.1 → LBt D t fg → wpl_X11_alike_34 fa na (nI D.1) Qa z (nI t) D.1 fg := by
    intro z
    induction z with
    | zero => intro t fg hk; exact absurd hk (Nat.not_lt_zero _)
    | succ z ih =>
      intro t fg hk ht hl
      refine ⟨fun q => ?_, fun q => ⟨⟨nI_pos (by omega), by rw [nI_clamp (by omega)]; exact d32⟩, ?_⟩⟩
      · rw [nI_leI (by omega) (by omega)] at q
        have e : t = D.1 := by omega
        subst e
        exact h fg (fun i hi => hl.2 d1 i hi)
      rw [nI_leI (by omega) (by omega)] at q
      rw [nI_clamp (by omega)]
      have g := L47 t fg (nI t) (fun (f40 : Nat → Int32) => wpl_X11_alike_34 fa na (nI D.1) Qa z (nI t + (1 : Int32)) D.1 f40) hl (fun fn hfn => by
        rw [nI_1]
        refine ih (t + 1) fn (by omega) (by omega) ⟨fun i j hi hj => ?_, fun _ => hfn⟩
        have b1 := PRT_le (D := D) (t + 1) i
        have b2 := PRT_le (D := D) (t + 1) j
        rw [hfn i hi, hfn j hj, nI_eq (by omega) (by omega)]) (D.1 + 1) 0 (fun _ => 0) (by omega) (Nat.zero_le _) (fun j hj => absurd hj (Nat.not_lt_zero _))
      rw [nI_0] at g
      exact ⟨_, g⟩
  have L11 : ∀ (z i : Nat) (fn : Nat → Int32), D.1 - i < z → i ≤ D.1 → (∀ j, j < i → fn j = bi (D.2.2 j)) → wpl_X11_alike_11 fa na D.1 (nI D.1) (fun (f12 : Nat → Int32) => ∃ n12x, n12x ≤ 33 ∧ wpl_X11_alike_34 fa na (nI D.1) Qa n12x (0 : Int32) D.1 f12) z (nI i) fn := by
    intro z
    induction z with
    | zero => intro i fn hk; exact absurd hk (Nat.not_lt_zero _)
    | succ z ih =>
      intro i fn hk hi hfn
      refine ⟨fun q => ?_, fun q => ?_⟩
      · rw [nI_leI (by omega) (by omega)] at q
        have g := L34 33 0 fn (by omega) (Nat.zero_le _) ⟨fun x y hx hy => by rw [hfn x (by omega), hfn y (by omega), bi_inj, PRT_0], fun z => absurd z (by omega)⟩
        rw [nI_0] at g
        exact ⟨33, Nat.le_refl _, g⟩
      rw [nI_leI (by omega) (by omega)] at q
      rw [show (4 : Int32) = nI 4 from rfl, show (3 : Int32) = nI 3 from rfl, s_mul, nI_add, nI_clamp (by omega), nI_clamp (by omega), dg i (by omega), nI_1]
      refine ⟨s_in (by omega) (by omega), s_in (by omega) (by omega), ih (i + 1) _ (by omega) (by omega) (fun j hj => ?_)⟩
      by_cases e : j = i
      · rw [e, upd_at]
      · rw [upd_ne e]; exact hfn j (by omega)
  have g := L11 (D.1 + 1) 0 (fun _ => 0) (by omega) (Nat.zero_le _) (fun j hj => absurd hj (Nat.not_lt_zero _))
  rw [nI_0] at g
  unfold wp_X11_alike
  rw [ez, nI_clamp (by omega)]
  exact ⟨⟨nI_pos (by omega), d32⟩, _, g⟩
end SRJ
end
/-! part 9sak.ref6 -/
section
section SRK
variable {ν : TMem} {S : Nat → AM} {a r k t : Int32} {a1 a2 a3 a4 : Int32} {Q : Int32 → TMem → Prop} {Qi : Int32 → Prop} {Qo : Option AI → Prop} {m : Nat} {A B : AM} {D : DF} {na : Nat} {fa : Nat → Int32} {n : Nat}
/-- where the reference's making least stands -/
def RLS (D : DF) (R : Option (List Nat × List Nat)) (L T : List Nat) (a' : Nat) (fw fm : Nat → Int32) : Prop := EI 32 (fL D) (fun _ => false) R L T ∧ EN D.1 L ∧ (∀ i, i < L.length → ∃ x, x < D.1 ∧ fw i = nI x ∧ PL D x = L.getD i 0) ∧ (∀ j, j < T.length → fm (4 * (j / 3) + j % 3) = nI (T.getD j 0)) ∧ ∀ i, i < a' → fm (4 * i + 3) = bi (D.2.2 (L.getD i 0))
variable {R : Option (List Nat × List Nat)} {fg : Nat → Int32}
theorem rr_ls77 {fw fm : Nat → Int32} {L : List Nat} {v31 v32 : Int32} {x : Nat} {K : Int32 → Prop} (d32 : D.1 ≤ 32) (hg : ∀ i, i < D.1 → fg i = nI (PL D i)) (hw : ∀ i, i < L.length → ∃ y, y < D.1 ∧ fw i = nI y ∧ PL D y = L.getD i 0) (hl : L.length ≤ D.1) (hx : x < D.1) (h : K (nI (L.idxOf (PL D x)))) : ∃ z, wpl_X11_least_77 fa na fg D.1 fw D.1 fm (4 * D.1) (nI x) v31 v32 (nI L.length) K z 0 := by
  have go : ∀ (z i : Nat), L.length - i < z → i ≤ L.length → (∀ j, j < i → L.getD j 0 ≠ PL D x) → wpl_X11_least_77 fa na fg D.1 fw D.1 fm (4 * D.1) (nI x) v31 v32 (nI L.length) K z (nI i) := by
    intro z
    induction z with
    | zero => intro i hk; exact absurd hk (Nat.not_lt_zero _)
    | succ z ih =>
      intro i hk hi hno
      refine ⟨fun q => ?_, fun q => ?_⟩
      · rw [nI_leI (by omega) (by omega)] at q
        rw [List.idxOf_eq_length (not_mem_of (fun j hj => hno j (by omega)))] at h
        rw [show i = L.length by omega]
        exact h
      rw [nI_leI (by omega) (by omega)] at q
      obtain ⟨y, hy, ey, py⟩ := hw i (by omega)
      have l1 := PL_lt hy
      have l2 := PL_lt hx
      rw [nI_clamp (by omega), ey, nI_clamp (by omega), nI_clamp (by omega), hg y hy, hg x hx, nI_eq (by omega) (by omega), py, nI_1]
      refine ⟨s_in (by omega) (by omega), s_in hy (by omega), s_in hx (by omega), fun w => ?_, fun w => ih (i + 1) (by omega) (by omega) (fun j hj => ?_)⟩
      · rw [idx_of (by omega) w hno] at h
        exact h
      · by_cases e : j = i
        · rw [e]; exact w
        · exact hno j (by omega)
  have g := go (L.length + 1) 0 (by omega) (by omega) (fun j hj => absurd hj (Nat.not_lt_zero _))
  rw [nI_0] at g
  exact ⟨_, g⟩
theorem rr_ls55 {x : Nat} {K : Int32 → (Nat → Int32) → (Nat → Int32) → Prop} (hF : HF na fa D) (hg : ∀ i, i < D.1 → fg i = nI (PL D i))
    (hK : ∀ (L T : List Nat) (fw fm : Nat → Int32), T.length = 3 * (x + 1) → x < L.length → RLS D R L T (x + 1) fw fm → K (nI L.length) fw fm) :
    ∀ (k b : Nat) (L T : List Nat) (fw fm : Nat → Int32), 3 - b < k → b ≤ 3 → T.length = 3 * x + b → x < L.length → RLS D R L T (x + 1) fw fm → wpl_X11_least_55 fa na fg D.1 D.1 (4 * D.1) (nI x) K k (nI b) (nI L.length) fw fm := by
  obtain ⟨d1, d32, dT, dn, df, dg⟩ := hF
  intro k
  induction k with
  | zero => intro b L T fw fm hk; exact absurd hk (Nat.not_lt_zero _)
  | succ k ih =>
    intro b L T fw fm hk hb hT hx hO
    have hO' := hO
    obtain ⟨h1, h0, h2, h3, h4⟩ := hO'
    have hL := h1.2.1
    have hLD := nodup_le D.1 L h0.1 h0.2
    refine ⟨fun q => ?_, fun q => ?_⟩
    · rw [show (3 : Int32) = nI 3 from rfl, nI_leI (by omega) (by omega)] at q
      exact hK L T fw fm (by omega) hx hO
    rw [show (3 : Int32) = nI 3 from rfl, nI_leI (by omega) (by omega)] at q
    have hd : ¬ (3 * L.length ≤ T.length ∨ false = true) := fun z => z.elim (fun z => by omega) (fun z => by cases z)
    obtain ⟨y, hy, ey, py⟩ := h2 x hx
    have lt' := dT (3 * y + b) (by omega)
    have er : PL D (D.2.1 (3 * y + b)) = nxt (fL D) L T := by rw [fL_of dT d1 hy py (by omega), nxt, hT, show (3 * x + b) / 3 = x by omega, show (3 * x + b) % 3 = b by omega]
    have pX : (nI x).toNatClampNeg = x := nI_clamp (by omega)
    rw [pX, ey, show (4 : Int32) * nI y + nI b = nI (4 * y + b) by rw [show (4 : Int32) = nI 4 from rfl, s_mul, nI_add], nI_clamp (by omega), df y b hy (by omega)]
    have p4 : (4 : Int32) * nI x + nI b = nI (4 * x + b) := by rw [show (4 : Int32) = nI 4 from rfl, s_mul, nI_add]
    have i4 : vp_in ((4 : Int32) * nI x + nI b) (4 * D.1) := by rw [p4]; exact s_in (by omega) (by omega)
    refine ⟨s_in (by omega) (by omega), s_in (by omega) (by omega), rr_ls77 d32 hg h2 hLD lt' ?_⟩
    rw [er]
    have mk : ∀ (z : Nat) (j : Nat), j < (T ++ [z]).length → (upd fm (4 * x + b) (nI z)) (4 * (j / 3) + j % 3) = nI ((T ++ [z]).getD j 0) := fun z j hj => by
      rw [List.length_append] at hj
      simp at hj
      by_cases e : j = T.length
      · rw [e, getD_new, show 4 * (T.length / 3) + T.length % 3 = 4 * x + b by omega, upd_at]
      · rw [upd_ne (by omega), getD_app (by omega)]
        exact h3 j (by omega)
    intro J hJ
    by_cases c : nxt (fL D) L T ∈ L
    · have il := idx_lt c
      refine ⟨fun _ => hJ _ _ ⟨i4, ?_⟩, fun z => absurd ((nI_eq (by omega) (by omega)).mp z) (by omega)⟩
      rw [p4, nI_clamp (by omega), nI_1]
      exact ih (b + 1) L (T ++ [L.idxOf (nxt (fL D) L T)]) fw _ (by omega) (by omega) (by rw [List.length_append]; simp; omega) hx ⟨h1.old hd c, h0, h2, mk _, fun i hi => by rw [upd_ne (by omega)]; exact h4 i hi⟩
    · rw [List.idxOf_eq_length c] at hJ ⊢
      have room := h0.room c (by rw [← er]; exact PL_lt lt')
      refine ⟨fun z => absurd rfl z, fun _ => ⟨s_in room (by omega), hJ _ _ ⟨i4, ?_⟩⟩⟩
      rw [p4, nI_clamp (by omega), nI_clamp (by omega), nI_1, nI_1]
      have g := ih (b + 1) (L ++ [nxt (fL D) L T]) (T ++ [L.length]) (upd fw L.length (nI (D.2.1 (3 * y + b)))) (upd fm (4 * x + b) (nI L.length)) (by omega) (by omega) (by rw [List.length_append]; simp; omega) (by rw [List.length_append]; simp; omega) ⟨h1.new hd c (by omega), h0.app c (by rw [← er]; exact PL_lt lt'), fun i hi => ?_, mk _, fun i hi => by rw [upd_ne (by omega), getD_app (by omega)]; exact h4 i hi⟩
      · rw [List.length_append] at g
        exact g
      · rw [List.length_append] at hi
        simp at hi
        by_cases e : i = L.length
        · exact ⟨_, lt', by rw [e, upd_at], by rw [e, getD_new]; exact er⟩
        · rw [upd_ne e, getD_app (by omega)]
          exact h2 i (by omega)
theorem rr_ls27 {K : Int32 → (Nat → Int32) → Prop} (hF : HF na fa D) (hg : ∀ i, i < D.1 → fg i = nI (PL D i))
    (hK : ∀ (L T : List Nat) (fw fm : Nat → Int32), R = some (L, T) → T.length = 3 * L.length → RLS D R L T L.length fw fm → K (nI L.length) fm) :
    ∀ (k x : Nat) (L T : List Nat) (fw fm : Nat → Int32), 32 - x < k → x ≤ L.length → T.length = 3 * x → RLS D R L T x fw fm → wpl_X11_least_27 fa na fg D.1 D.1 (4 * D.1) K k (nI x) (nI L.length) fm fw := by
  have hF' := hF
  obtain ⟨d1, d32, dT, dn, df, dg⟩ := hF'
  intro k
  induction k with
  | zero => intro x L T fw fm hk; exact absurd hk (Nat.not_lt_zero _)
  | succ k ih =>
    intro x L T fw fm hk hx hT hO
    have hO' := hO
    obtain ⟨h1, h0, h2, h3, h4⟩ := hO'
    have hL := h1.2.1
    have hLD := nodup_le D.1 L h0.1 h0.2
    refine ⟨fun q => ?_, fun q => ?_⟩
    · rw [nI_leI (by omega) (by omega)] at q
      have e : x = L.length := by omega
      rw [e] at hO hT
      exact hK L T fw fm (h1.done (Or.inl (by omega))) hT hO
    rw [nI_leI (by omega) (by omega)] at q
    obtain ⟨y, hy, ey, py⟩ := h2 x (by omega)
    have pX : (nI x).toNatClampNeg = x := nI_clamp (by omega)
    have q4 : ∀ z : Nat, (4 : Int32) * nI z + (3 : Int32) = nI (4 * z + 3) := fun z => by rw [show (4 : Int32) = nI 4 from rfl, show (3 : Int32) = nI 3 from rfl, s_mul, nI_add]
    rw [pX, ey, q4, q4, nI_clamp (by omega), nI_clamp (by omega), dg y hy]
    refine ⟨s_in (by omega) (by omega), s_in (by omega) (by omega), s_in (by omega) (by omega), ?_⟩
    have g := rr_ls55 (x := x) (R := R) (K := fun (u48 : Int32) (f49 : Nat → Int32) (f50 : Nat → Int32) => wpl_X11_least_27 fa na fg D.1 D.1 (4 * D.1) K k (nI x + (1 : Int32)) u48 f50 f49) hF hg (fun L9 T9 fw9 fm9 z1 z2 z3 => by rw [nI_1]; exact ih (x + 1) L9 T9 fw9 fm9 (by omega) (by omega) z1 z3) 4 0 L T fw (upd fm (4 * x + 3) (bi (D.2.2 y))) (by omega) (by omega) hT (by omega) ⟨h1, h0, h2, fun j hj => by rw [upd_ne (by omega)]; exact h3 j hj, fun i hi => by
      by_cases e : i = x
      · rw [e, upd_at, gL_of dT d1 hy py]
      · rw [upd_ne (by omega)]; exact h4 i (by omega)⟩
    rw [nI_0] at g
    exact ⟨_, g⟩
theorem rr_least (hF : HF na fa D) (h : ∀ (D' : DF) (nf : Nat) (g : Nat → Int32), LSD D = some D' → HF nf g D' → Qo (some (nf, g))) : wp_X11_least na fa Qo := by
  have hF' := hF
  obtain ⟨d1, d32, dT, dn, df, dg⟩ := hF'
  refine rr_alike hF (fun fg hg => ?_)
  have c1 : (nI D.1).toNatClampNeg = D.1 := nI_clamp (by omega)
  have c2 : (nI na).toNatClampNeg = 4 * D.1 := by rw [nI_clamp (by omega)]; exact dn
  rw [c1, c2]
  have l0 : PL D 0 < D.1 := PL_lt (by omega)
  refine ⟨⟨nI_pos (by omega), d32⟩, ⟨nI_pos (by omega), by omega⟩, ?_⟩
  have g := rr_ls27 (R := EX 32 (fL D) (fun _ => false) (PL D 0)) (K := fun (u52 : Int32) (f53 : Nat → Int32) => wp_X11_part (4 * D.1) f53 ((4 : Int32) * u52) (fun (n55 : Nat) (f56 : Nat → Int32) => Qo (some (n55, f56)))) hF hg (fun L T fw fm hR hT hO => by
    obtain ⟨e1, e0, e2, e3, e4⟩ := hO
    have hL := e1.2.1
    have hLD := nodup_le D.1 L e0.1 e0.2
    rw [show (4 : Int32) = nI 4 from rfl, s_mul]
    refine rr_part (by omega) (by omega) (fun f' hf' => h (DFo L T D.2.2) (4 * L.length) f' (by unfold fL at hR; rw [LSD, hR]; rfl) ⟨e1.2.2.1, e1.2.1, fun j hj => ?_, rfl, fun i s hi hs => ?_, fun i hi => ?_⟩)
    · have hj' : j < 3 * L.length := hj
      exact (e1.2.2.2.2 j (by omega)).1
    · have hi' : i < L.length := hi
      rw [hf' _ (by omega)]
      have := e3 (3 * i + s) (by omega)
      rw [show (3 * i + s) / 3 = i by omega, show (3 * i + s) % 3 = s by omega] at this
      exact this
    · have hi' : i < L.length := hi
      rw [hf' _ (by omega)]
      exact e4 i hi') 33 0 [PL D 0] [] (fun _ => 0) (fun _ => 0) (by omega) (by omega) rfl ⟨EI.start _ (by omega), ⟨by simp, fun x hx => by simp at hx; omega⟩, fun i hi => ?_, fun j hj => absurd hj (Nat.not_lt_zero _), fun i hi => absurd hi (Nat.not_lt_zero _)⟩
  · rw [nI_0] at g
    exact ⟨_, g⟩
  · simp at hi
    subst hi
    exact ⟨0, by omega, rfl, rfl⟩
/-- what found tells, for 0 and 3 -/
theorem rr_found0 (hm : m < 4) (hR : HR ν m A) (hv : AV A) (h1 : ∀ (D : DF) (nf : Nat) (g : Nat → Int32), LSM A = some D → HF nf g D → Qo (some (nf, g))) (h0 : LSM A = none → Qo none) : wp_X11_found ν (nI m) 0 Qo := by
  refine ⟨fun _ => ⟨fun _ => ?_, fun z => absurd z (by decide)⟩, fun z => absurd z (by decide)⟩
  refine rr_oneWayA hm hR hv (fun D nf g e hF => ⟨(fun z => nomatch z), fun n6 f7 z => ?_⟩) (fun e => ⟨fun _ => ⟨fun _ => h0 (by rw [LSM, e]; rfl), (fun _ _ z => nomatch z)⟩, (fun _ _ z => nomatch z)⟩)
  cases z
  refine rr_least hF (fun D' nf' g' e' hF' => ⟨(fun z => nomatch z), fun n13 f14 z => ?_⟩)
  cases z
  exact h1 D' nf' g' (by rw [LSM, e]; exact e') hF'
theorem rr_found3 (hm : m < 4) (hR : HR ν m A) (hv : AV A) (h1 : ∀ (D : DF) (nf : Nat) (g : Nat → Int32), OWM A = some D → HF nf g D → Qo (some (nf, g))) (h0 : OWM A = none → Qo none) : wp_X11_found ν (nI m) 3 Qo := by
  refine ⟨fun z => absurd rfl z, fun _ => ?_⟩
  refine rr_oneWayA hm hR hv (fun D nf g e hF => ⟨(fun z => nomatch z), fun n6 f7 z => ?_⟩) (fun e => ⟨fun _ => h0 e, (fun _ _ z => nomatch z)⟩)
  cases z
  exact h1 D nf g e hF
theorem gmk_step {g : Nat → Bool} {i : Nat} (hi : i < 32) : gmk g i ||| ((bi (g i)) <<< (nI i &&& 31)) = gmk g (i + 1) := by
  rw [gmk]
  cases g i with
  | true => rw [if_pos rfl]; rfl
  | false =>
    rw [if_neg (by decide)]
    refine nn_inj ?_
    rw [nn_or, show nn ((bi false) <<< (nI i &&& 31)) = 0 from (by decide +kernel : ∀ i, i < 32 → nn ((bi false) <<< (nI i &&& 31)) = 0) i hi, Nat.or_zero]
theorem rr_become {m' : Nat} (h : RSt ν S a r k t) (hF : HF na fa D) (hm : m' < 4) (hok : D.1 ≤ 7 → ∀ ν9, RSt ν9 (sUp S m' (aP D)) (a + 1) r k t → Q (nI D.1) ν9) (hre : ¬ D.1 ≤ 7 → ∀ ν9, RSt ν9 S a (r + 1) k t → Q (-9) ν9) : wp_X11_become ν (nI m') na fa Q := by
  obtain ⟨d1, d32, dT, dn, df, dg⟩ := hF
  have im : (nI m').toNatClampNeg = m' := nI_clamp (by omega)
  have ez : nI na / (4 : Int32) = nI D.1 := by rw [show (4 : Int32) = nI 4 from rfl, s_div (by omega) (by omega) (by omega), dn]; congr 1; omega
  refine ⟨fun z => ?_, fun z => ?_⟩
  · rw [show (28 : Int32) = nI 28 from rfl, nI_leI (by omega) (by omega)] at z
    rw [ez]
    refine rr_clear hm (fun ν2 hR hFr => ?_)
    obtain ⟨b1, b2, b3, b4⟩ := hR
    have L2 : ∀ (x : Nat) (νs : TMem) (K : TMem → Prop), x < D.1 → (∀ ν1, RW m' νs (aP D).2.2.2 (3 * x + 3) ν1 → K ν1) → ∀ (z b : Nat) (ν1 : TMem), 3 - b < z → b ≤ 3 → RW m' νs (aP D).2.2.2 (3 * x + b) ν1 → wpl_X11_become_58 fa na (nI x) (nI m') K z (nI b) ν1 := by
      intro x νs K hx hK z
      induction z with
      | zero => intro b ν1 hk; exact absurd hk (Nat.not_lt_zero _)
      | succ z ih =>
        intro b ν1 hk hb hW
        refine ⟨fun q => ?_, fun q => rr_key ?_⟩
        · rw [show (3 : Int32) = nI 3 from rfl, nI_leI (by omega) (by omega)] at q
          rw [show 3 * x + b = 3 * x + 3 by omega] at hW
          exact hK ν1 hW
        rw [show (3 : Int32) = nI 3 from rfl, nI_leI (by omega) (by omega)] at q
        rw [show (4 : Int32) = nI 4 from rfl, s_mul, nI_add, nI_clamp (by omega), nI_clamp (by omega), df x b hx (by omega), nI_1, Nat.add_assoc]
        refine ⟨s_in (by omega) (by omega), s_in (show _ < 84 by omega) (by omega), ?_⟩
        have e : (1 : Int32) <<< (nI (D.2.1 (3 * x + b)) &&& 31) = (aP D).2.2.2 (3 * x + b) := by
          show _ = if 3 * x + b < 3 * D.1 then _ else _
          rw [if_pos (by omega)]
        rw [e]
        exact ih (b + 1) _ (by omega) (by omega) hW.step
    have L1 : ∀ (z x : Nat) (ν1 : TMem), D.1 - x < z → x ≤ D.1 → ν1 0 = ν2 0 → ν1 1 = ν2 1 → ν1 2 = ν2 2 → ν1 3 m' = gmk D.2.2 x → (∀ i, i ≠ m' → ν1 3 i = ν2 3 i) → (∀ j, j < 3 * x → ν1 4 (21 * m' + j) = (aP D).2.2.2 j) → (∀ q, q < 21 * m' ∨ 21 * m' + 3 * x ≤ q → ν1 4 q = ν2 4 q) → wpl_X11_become_27 fa na (nI m') (fun (μ24 : TMem) => vp_in (nI m') (ml 1) ∧ (wp_X11_did μ24 (μ24 1 m') (fun (r27 : Int32) (μ26 : TMem) => Q r27 μ26))) z (nI x) ν1 := by
      intro z
      induction z with
      | zero => intro x ν1 hk; exact absurd hk (Nat.not_lt_zero _)
      | succ z ih =>
        intro x ν1 hk hx w0 w1 w2 w3 w3' w4 w5
        refine ⟨s_in hm (by omega), ?_⟩
        have e1 : ν1 1 m' = nI D.1 := by rw [w1]; exact b1
        rw [im, e1]
        refine ⟨fun q => ⟨s_in hm (by omega), ?_⟩, fun q => ⟨s_in hm (by omega), ?_⟩⟩
        · rw [nI_leI (by omega) (by omega)] at q
          have ex : x = D.1 := by omega
          subst ex
          show Q (ν1 1 m') _
          rw [e1]
          refine hok (by omega) _ (h.act (m := m') (A := aP D) ⟨e1, by rw [w2]; exact b2, w3, fun j hj => ?_⟩ ⟨by rw [w0]; exact hFr.1, fun i hi => ⟨by rw [w1]; exact (hFr.2.1 i hi).1, by rw [w2]; exact (hFr.2.1 i hi).2.1, by rw [w3' i hi]; exact (hFr.2.1 i hi).2.2⟩, fun p hp => by rw [w5 p (by omega)]; exact hFr.2.2 p hp⟩)
          by_cases e : j < 3 * D.1
          · exact w4 j e
          · rw [w5 _ (by omega), b4 j hj]
            show (0 : Int32) = if j < 3 * D.1 then _ else _
            rw [if_neg e]
        · rw [nI_leI (by omega) (by omega)] at q
          rw [w3, show (4 : Int32) = nI 4 from rfl, show (3 : Int32) = nI 3 from rfl, s_mul, nI_add, nI_clamp (by omega), dg x (by omega), gmk_step (by omega)]
          refine ⟨s_in (by omega) (by omega), s_in hm (by omega), ?_⟩
          have g := L2 x (tms ν1 3 m' (gmk D.2.2 (x + 1))) (fun u => wpl_X11_become_27 fa na (nI m') (fun (μ24 : TMem) => vp_in (nI m') (ml 1) ∧ (wp_X11_did μ24 (μ24 1 m') (fun (r27 : Int32) (μ26 : TMem) => Q r27 μ26))) z (nI x + (1 : Int32)) u) (by omega) (fun ν9 h9 => by
            rw [nI_1]
            refine ih (x + 1) ν9 (by omega) (by omega) (by rw [h9.2.2 0 (by decide), tms_ne (by decide)]; exact w0) (by rw [h9.2.2 1 (by decide), tms_ne (by decide)]; exact w1) (by rw [h9.2.2 2 (by decide), tms_ne (by decide)]; exact w2) (by rw [h9.2.2 3 (by decide), tms_eq, upd_at]) (fun i hi => by rw [h9.2.2 3 (by decide), tms_eq, upd_ne hi]; exact w3' i hi) (fun j hj => h9.1 j (by omega)) (fun q' hq' => by rw [h9.2.1 q' (by omega), tms_ne (by decide)]; exact w5 q' (by omega))) 4 0 (tms ν1 3 m' (gmk D.2.2 (x + 1))) (by omega) (by omega) ⟨fun j hj => by rw [tms_ne (by decide)]; exact w4 j (by omega), fun _ _ => rfl, fun _ _ => rfl⟩
          rw [nI_0] at g
          exact ⟨_, g⟩
    have g := L1 (D.1 + 1) 0 ν2 (by omega) (Nat.zero_le _) rfl rfl rfl b3 (fun _ _ => rfl) (fun j hj => absurd hj (Nat.not_lt_zero _)) (fun _ _ => rfl)
    rw [nI_0] at g
    rw [im]
    exact ⟨_, g⟩
  · rw [show (28 : Int32) = nI 28 from rfl, nI_leI (by omega) (by omega)] at z
    exact hre (by omega) _ h.ref
theorem rr_make (h : RSt ν S a r k t) (hv : AVs S) (hok : ∀ m m' D, m < 4 → m' < 4 → a1 = nI m → a3 = nI m' → SM7 (MK2 (S m) a2) D → ∀ ν9, RSt ν9 (sUp S m' (aP D)) (a + 1) r k 0 → Q (nI D.1) ν9) (hre : ∀ m m', m < 4 → m' < 4 → a1 = nI m → a3 = nI m' → NO7 (MK2 (S m) a2) → ∀ ν9, RSt ν9 S a (r + 1) k 0 → Q (-9) ν9) (h1 : ¬ ONE2 a1 a3 → ∀ b ν9, RSt ν9 S a r k 1 → Q b ν9) : wp_X11_make ν a1 a2 a3 Q := by
  refine rr_two (fun m m' hm hm' em em' => th_ok ⟨fun _ J hJ => ?_, fun q => absurd rfl q⟩) (fun z => th_1 ⟨fun q => absurd q (by decide), fun _ => h1 z _ _ (h.thr 1)⟩)
  have h0 := h.thr 0
  have hR := h0.1 m hm
  have hok' := fun D => hok m m' D hm hm' em em'
  have hre' := hre m m' hm hm' em em'
  rw [em, em'] at hJ
  have some' : ∀ (D : DF) (nf : Nat) (g : Nat → Int32), MK2 (S m) a2 = some D → HF nf g D → ((some (nf, g) = none → (wp_X11_become_n (tms ν 0 7 0) (nI m') (fun (r15 : Int32) (μ14 : TMem) => Q r15 μ14))) ∧ (∀ (n12 : Nat) (f13 : Nat → Int32), some (nf, g) = some (n12, f13) → (wp_X11_become (tms ν 0 7 0) (nI m') n12 f13 (fun (r17 : Int32) (μ16 : TMem) => Q r17 μ16)))) := fun D nf g e hF => ⟨(fun z => nomatch z), fun n12 f13 z => by
    cases z
    exact rr_become h0 hF hm' (fun q => hok' D ⟨e, q, hF.1, hF.2.2.1⟩) (fun q => hre' (fun D' e' => by rw [e] at e'; cases e'; exact q))⟩
  have none' : MK2 (S m) a2 = none → (((none : Option AI) = none → (wp_X11_become_n (tms ν 0 7 0) (nI m') (fun (r15 : Int32) (μ14 : TMem) => Q r15 μ14))) ∧ (∀ (n12 : Nat) (f13 : Nat → Int32), (none : Option AI) = some (n12, f13) → (wp_X11_become (tms ν 0 7 0) (nI m') n12 f13 (fun (r17 : Int32) (μ16 : TMem) => Q r17 μ16)))) := fun e => ⟨fun _ => hre' (fun D' e' => by rw [e] at e'; cases e') _ h0.ref, (fun _ _ z => nomatch z)⟩
  refine ⟨fun z => hJ 3 ?_, fun z => hJ 0 ?_⟩
  · have e2 : MK2 (S m) a2 = OWM (S m) := by rw [MK2, if_pos z]
    rw [e2] at some' none'
    exact rr_found3 hm hR (hv m hm) some' none'
  · have e2 : MK2 (S m) a2 = LSM (S m) := by rw [MK2, if_neg z]
    rw [e2] at some' none'
    exact rr_found0 hm hR (hv m hm) some' none'
end SRK
end
/-! part 9sal.ref7 -/
section
section SRL
variable {ν : TMem} {S : Nat → AM} {a r k t : Int32} {a1 a2 a3 a4 : Int32} {Q : Int32 → TMem → Prop} {Qi : Int32 → Prop} {Qo : Option AI → Prop} {m : Nat} {A B : AM} {D D1 D2 : DF} {na1 na2 : Nat} {fa1 fa2 : Nat → Int32} {n : Nat}
theorem rr_unlike {p : Nat} (h1 : HF na1 fa1 D1) (h2 : HF na2 fa2 D2) (hp : p / 32 < D1.1 ∧ p % 32 < D2.1) (h : Qi (bi (uM D1 D2 p))) : wp_X11_isUnlike na1 fa1 na2 fa2 (nI p) Qi := by
  obtain ⟨c1, c32, cT, cn, cf, cg⟩ := h1
  obtain ⟨d1, d32, dT, dn, df, dg⟩ := h2
  unfold wp_X11_isUnlike
  have e1 : ((4 : Int32) * (nI p / (32 : Int32))) + (3 : Int32) = nI (4 * (p / 32) + 3) := by
    rw [show (32 : Int32) = nI 32 from rfl, s_div (by omega) (by omega) (by omega), show (4 : Int32) = nI 4 from rfl, show (3 : Int32) = nI 3 from rfl, s_mul, nI_add]
  have e2 : ((4 : Int32) * (nI p - nI p / (32 : Int32) * (32 : Int32))) + (3 : Int32) = nI (4 * (p % 32) + 3) := by
    rw [show (32 : Int32) = nI 32 from rfl, s_mod (by omega) (by omega) (by omega), show (4 : Int32) = nI 4 from rfl, show (3 : Int32) = nI 3 from rfl, s_mul, nI_add]
  rw [e1, e2, nI_clamp (by omega), nI_clamp (by omega), cg _ hp.1, dg _ hp.2, bi_inj]
  refine ⟨s_in (by omega) (by omega), s_in (by omega) (by omega), fun z => ?_, fun z => ?_⟩
  · rw [show uM D1 D2 p = false by rw [uM, z]; simp] at h
    exact h
  · rw [show uM D1 D2 p = true by rw [uM]; simpa using z] at h
    exact h
/-- where the reference's meeting stands -/
def RMT (D1 D2 : DF) (lim : Nat) (u : Nat → Bool) (R : Option (List Nat × List Nat)) (L T : List Nat) (f : Nat → Int32) : Prop := EI lim (fM D1 D2) u R L T ∧ (∀ x ∈ L, x / 32 < D1.1 ∧ x % 32 < D2.1) ∧ ∀ i, i < L.length → f (3 * i + 1) = nI (L.getD i 0)
variable {lim : Nat} {w : Int32} {R : Option (List Nat × List Nat)}
theorem s_t1 (x : Nat) : (3 : Int32) * nI x + (1 : Int32) = nI (3 * x + 1) := by
  rw [show (3 : Int32) = nI 3 from rfl, show (1 : Int32) = nI 1 from rfl, s_mul, nI_add]
theorem s_t2 (x : Nat) : (3 : Int32) * nI x + (2 : Int32) = nI (3 * x + 2) := by
  rw [show (3 : Int32) = nI 3 from rfl, show (2 : Int32) = nI 2 from rfl, s_mul, nI_add]
theorem s_t3 (x : Nat) : (3 : Int32) * nI x + (3 : Int32) = nI (3 * x + 3) := by
  rw [show (3 : Int32) = nI 3 from rfl, s_mul, nI_add]
theorem rr_mt87 {f : Nat → Int32} {L : List Nat} {x n8 : Nat} {v25 v26 v28 v29 : Int32} {K : Int32 → Prop} (hn : 3 * L.length ≤ n8) (h200 : L.length ≤ 200) (hx : x < 1024) (hl : ∀ y ∈ L, y < 1024) (hf : ∀ i, i < L.length → f (3 * i + 1) = nI (L.getD i 0)) (h : K (nI (L.idxOf x))) : ∃ z, wpl_X11_met_87 fa1 na1 fa2 na2 f n8 (nI x) v25 v26 (nI L.length) v28 v29 K z 0 := by
  have go : ∀ (z i : Nat), L.length - i < z → i ≤ L.length → (∀ j, j < i → L.getD j 0 ≠ x) → wpl_X11_met_87 fa1 na1 fa2 na2 f n8 (nI x) v25 v26 (nI L.length) v28 v29 K z (nI i) := by
    intro z
    induction z with
    | zero => intro i hk; exact absurd hk (Nat.not_lt_zero _)
    | succ z ih =>
      intro i hk hi hno
      refine ⟨fun q => ?_, fun q => ?_⟩
      · rw [nI_leI (by omega) (by omega)] at q
        rw [List.idxOf_eq_length (not_mem_of (fun j hj => hno j (by omega)))] at h
        rw [show i = L.length by omega]
        exact h
      rw [nI_leI (by omega) (by omega)] at q
      have b := hl _ (getD_mem (L := L) (i := i) (by omega))
      rw [s_t1, nI_clamp (by omega), hf i (by omega), nI_eq (by omega) (by omega), nI_1]
      refine ⟨s_in (by omega) (by omega), fun y => ?_, fun y => ih (i + 1) (by omega) (by omega) (fun j hj => ?_)⟩
      · rw [idx_of (by omega) y hno] at h
        exact h
      · by_cases e : j = i
        · rw [e]; exact y
        · exact hno j (by omega)
  have g := go (L.length + 1) 0 (by omega) (by omega) (fun j hj => absurd hj (Nat.not_lt_zero _))
  rw [nI_0] at g
  exact ⟨_, g⟩
/-- what is behind a step: how many, and whether to stop -/
theorem rr_mtfin {v16 : Int32} {f : Nat → Int32} {L T : List Nat} {NEXT : Prop} {Qn : Nat → (Nat → Int32) → Prop} (h1 : HF na1 fa1 D1) (h2 : HF na2 fa2 D2) (hlim : lim ≤ 200) (hw : v16 = 0 ↔ ¬ w = 0) (hM : RMT D1 D2 lim (uW D1 D2 w) R L T f) (hN : uW D1 D2 w (L.getD (L.length - 1) 0) = false → NEXT) (hQ : R = some (L, T) → Qn (3 * (lim + 1) + 1) (upd f 0 (nI L.length))) :
    vp_in (0 : Int32) (3 * (lim + 1) + 1) ∧ (((nI lim) < (nI L.length) → (Qn (3 * (lim + 1) + 1) (upd f (0 : Int32).toNatClampNeg (nI L.length)))) ∧ (¬ (nI lim) < (nI L.length) → ((v16 = 0 → NEXT) ∧ (¬ v16 = 0 → (vp_in (((3 : Int32) * (nI L.length)) - (2 : Int32)) (3 * (lim + 1) + 1) ∧ (wp_X11_isUnlike na1 fa1 na2 fa2 ((upd f (0 : Int32).toNatClampNeg (nI L.length)) (((3 : Int32) * (nI L.length)) - (2 : Int32)).toNatClampNeg) (fun (r42 : Int32) => (r42 = 0 → NEXT) ∧ (¬ r42 = 0 → (Qn (3 * (lim + 1) + 1) (upd f (0 : Int32).toNatClampNeg (nI L.length))))))))))) := by
  obtain ⟨e1, e2, e3⟩ := hM
  have hL := e1.2.1
  have hL1 := e1.2.2.1
  have lm : L.getD (L.length - 1) 0 ∈ L := getD_mem (by omega)
  have z0 : (0 : Int32).toNatClampNeg = 0 := rfl
  rw [z0, nI_ltI (by omega) (by omega)]
  refine ⟨s_in (a := 0) (by omega) (by omega), fun q => absurd q (by omega), fun _ => ⟨fun q => hN (by rw [uW, decide_eq_false (hw.mp q)]; rfl), fun q => ?_⟩⟩
  have w0 : w = 0 := Classical.byContradiction (fun z => q (hw.mpr z))
  have e : (3 : Int32) * nI L.length - (2 : Int32) = nI (3 * (L.length - 1) + 1) := by
    rw [show (3 : Int32) = nI 3 from rfl, show (2 : Int32) = nI 2 from rfl, s_mul, s_sub (by omega) (by omega)]
    congr 1
    omega
  rw [e, nI_clamp (by omega), upd_ne (by omega), e3 _ (by omega)]
  refine ⟨s_in (by omega) (by omega), rr_unlike h1 h2 (e2 _ lm) ⟨fun z => hN ?_, fun z => hQ (e1.done (Or.inr ?_))⟩⟩
  · rw [bi_0] at z
    rw [uW, z]; simp
  · rw [bi_0] at z
    rw [uW, decide_eq_true w0, Bool.true_and]
    simpa using z
theorem rr_mt27 {x : Nat} {v16 : Int32} {K : Int32 → (Nat → Int32) → Prop} {Qn : Nat → (Nat → Int32) → Prop} (h1 : HF na1 fa1 D1) (h2 : HF na2 fa2 D2) (hlim : lim ≤ 200) (hw : v16 = 0 ↔ ¬ w = 0)
    (hK : ∀ (L T : List Nat) (f : Nat → Int32), T.length = 3 * (x + 1) → x < L.length → f 0 = nI L.length → RMT D1 D2 lim (uW D1 D2 w) R L T f → K (nI L.length) f) (hQ1 : ∀ (L T : List Nat) (f : Nat → Int32), R = some (L, T) → f 0 = nI L.length → RMT D1 D2 lim (uW D1 D2 w) R L T f → Qn (3 * (lim + 1) + 1) f) (hQ0 : R = none → ∀ f : Nat → Int32, f 0 = nI (lim + 1) → Qn (3 * (lim + 1) + 1) f) :
    ∀ (z b : Nat) (L T : List Nat) (f : Nat → Int32), 3 - b < z → b ≤ 3 → T.length = 3 * x + b → x < L.length → f 0 = nI L.length → uW D1 D2 w (L.getD (L.length - 1) 0) = false → RMT D1 D2 lim (uW D1 D2 w) R L T f → wpl_X11_met_27 fa1 na1 fa2 na2 (3 * (lim + 1) + 1) (nI x) (nI lim) v16 K Qn z (nI b) (nI L.length) f := by
  intro z
  induction z with
  | zero => intro b L T f hk; exact absurd hk (Nat.not_lt_zero _)
  | succ z ih =>
    intro b L T f hk hb hT hx hf0 hu hM
    have hM' := hM
    obtain ⟨e1, e2, e3⟩ := hM'
    obtain ⟨c1, c32, cT, cn, cf, cg⟩ := h1
    obtain ⟨d1, d32, dT, dn, df, dg⟩ := h2
    have hL := e1.2.1
    refine ⟨fun q => ?_, fun q => ?_⟩
    · rw [show (3 : Int32) = nI 3 from rfl, nI_leI (by omega) (by omega)] at q
      exact hK L T f (by omega) hx hf0 hM
    rw [show (3 : Int32) = nI 3 from rfl, nI_leI (by omega) (by omega)] at q
    have hd : ¬ (3 * L.length ≤ T.length ∨ uW D1 D2 w (L.getD (L.length - 1) 0) = true) := fun y => y.elim (fun y => by omega) (fun y => by rw [hu] at y; cases y)
    have am := e2 _ (getD_mem hx)
    have lt1 := cT (3 * (L.getD x 0 / 32) + b) (by omega)
    have lt2 := dT (3 * (L.getD x 0 % 32) + b) (by omega)
    have hq : nxt (fM D1 D2) L T = D1.2.1 (3 * (L.getD x 0 / 32) + b) * 32 + D2.2.1 (3 * (L.getD x 0 % 32) + b) := by
      rw [nxt, hT, show (3 * x + b) / 3 = x by omega, show (3 * x + b) % 3 = b by omega]
      rfl
    have hl : ∀ y ∈ L, y < 1024 := fun y hy => by have := e2 y hy; omega
    refine ⟨by rw [s_t1]; exact s_in (by omega) (by omega), fun J20 hJ20 => ⟨fun _ => ?_, fun y => absurd (by rw [← nI_0, nI_leI (by omega) (by omega)]; omega) y⟩⟩
    rw [s_t1, nI_clamp (by omega), e3 x hx]
    have e4a : ((4 : Int32) * (nI (L.getD x 0) / (32 : Int32))) + nI b = nI (4 * (L.getD x 0 / 32) + b) := by
      rw [show (32 : Int32) = nI 32 from rfl, s_div (by omega) (by omega) (by omega), show (4 : Int32) = nI 4 from rfl, s_mul, nI_add]
    have e4b : ((4 : Int32) * (nI (L.getD x 0) - nI (L.getD x 0) / (32 : Int32) * (32 : Int32))) + nI b = nI (4 * (L.getD x 0 % 32) + b) := by
      rw [show (32 : Int32) = nI 32 from rfl, s_mod (by omega) (by omega) (by omega), show (4 : Int32) = nI 4 from rfl, s_mul, nI_add]
    rw [e4a, e4b, nI_clamp (by omega), nI_clamp (by omega), cf _ b am.1 (by omega), df _ b am.2 (by omega), show (32 : Int32) = nI 32 from rfl, s_mul, nI_add, ← hq]
    have hx3 : nxt (fM D1 D2) L T < 1024 := by rw [hq]; omega
    have hxr : nxt (fM D1 D2) L T / 32 < D1.1 ∧ nxt (fM D1 D2) L T % 32 < D2.1 := by rw [hq]; omega
    refine ⟨s_in (by omega) (by omega), s_in (by omega) (by omega), hJ20 _ (rr_mt87 (L := L) (by omega) (by omega) hx3 hl e3 ?_)⟩
    intro J35 hJ35
    by_cases c : nxt (fM D1 D2) L T ∈ L
    · have il := idx_lt c
      refine ⟨fun _ => hJ35 _ _ (rr_mtfin (T := T ++ [L.idxOf (nxt (fM D1 D2) L T)]) ⟨c1, c32, cT, cn, cf, cg⟩ ⟨d1, d32, dT, dn, df, dg⟩ hlim hw ⟨e1.old hd c, e2, e3⟩ (fun hu' => ?_) (fun hR => hQ1 L _ _ hR (by rw [upd_at]) ⟨e1.old hd c, e2, fun i hi => by rw [upd_ne (by omega)]; exact e3 i hi⟩)), fun y => absurd ((nI_eq (by omega) (by omega)).mp y) (by omega)⟩
      rw [nI_1]
      exact ih (b + 1) L (T ++ [L.idxOf (nxt (fM D1 D2) L T)]) _ (by omega) (by omega) (by rw [List.length_append]; simp; omega) hx (by show upd f 0 _ 0 = _; rw [upd_at]) hu' ⟨e1.old hd c, e2, fun i hi => by show upd f 0 _ (3 * i + 1) = _; rw [upd_ne (by omega)]; exact e3 i hi⟩
    · rw [List.idxOf_eq_length c]
      refine ⟨fun y => absurd rfl y, fun _ => ⟨by rw [s_t1]; exact s_in (by omega) (by omega), by rw [s_t2]; exact s_in (by omega) (by omega), by rw [s_t3]; exact s_in (by omega) (by omega), ?_⟩⟩
      have z0 : (0 : Int32).toNatClampNeg = 0 := rfl
      rw [s_t1, s_t2, s_t3, nI_clamp (by omega), nI_clamp (by omega), nI_clamp (by omega), nI_1]
      by_cases hl' : lim ≤ L.length
      · refine hJ35 _ _ ⟨s_in (a := 0) (by omega) (by omega), fun _ => hQ0 (e1.full hd c hl') _ (by rw [z0, upd_at, show L.length = lim by omega]), fun y => absurd (by rw [nI_ltI (by omega) (by omega)]; omega) y⟩
      · have hnew := e1.new hd c hl'
        have r2 : ∀ y ∈ L ++ [nxt (fM D1 D2) L T], y / 32 < D1.1 ∧ y % 32 < D2.1 := fun y hy => by
          rw [List.mem_append] at hy
          rcases hy with hy | hy
          · exact e2 y hy
          · simp at hy
            rw [hy]
            exact hxr
        have r3 : ∀ i, i < (L ++ [nxt (fM D1 D2) L T]).length → (upd (upd (upd f (3 * L.length + 1) (nI (nxt (fM D1 D2) L T))) (3 * L.length + 2) (nI x)) (3 * L.length + 3) (nI b)) (3 * i + 1) = nI ((L ++ [nxt (fM D1 D2) L T]).getD i 0) := fun i hi => by
          rw [List.length_append] at hi
          simp at hi
          rw [upd_ne (by omega), upd_ne (by omega)]
          by_cases e : i = L.length
          · rw [e, upd_at, getD_new]
          · rw [upd_ne (by omega), getD_app (by omega)]
            exact e3 i (by omega)
        have len : (L ++ [nxt (fM D1 D2) L T]).length = L.length + 1 := by rw [List.length_append]; rfl
        have fin := rr_mtfin (NEXT := wpl_X11_met_27 fa1 na1 fa2 na2 (3 * (lim + 1) + 1) (nI x) (nI lim) v16 K Qn z (nI b + (1 : Int32)) (nI (L.length + 1)) (upd (upd (upd (upd f (3 * L.length + 1) (nI (nxt (fM D1 D2) L T))) (3 * L.length + 2) (nI x)) (3 * L.length + 3) (nI b)) (0 : Int32).toNatClampNeg (nI (L.length + 1)))) (Qn := Qn) (L := L ++ [nxt (fM D1 D2) L T]) (T := T ++ [L.length]) (R := R) ⟨c1, c32, cT, cn, cf, cg⟩ ⟨d1, d32, dT, dn, df, dg⟩ hlim hw ⟨hnew, r2, r3⟩ (fun hu' => by
          have g := ih (b + 1) (L ++ [nxt (fM D1 D2) L T]) (T ++ [L.length]) (upd (upd (upd (upd f (3 * L.length + 1) (nI (nxt (fM D1 D2) L T))) (3 * L.length + 2) (nI x)) (3 * L.length + 3) (nI b)) 0 (nI (L.length + 1))) (by omega) (by omega) (by rw [List.length_append]; simp; omega) (by rw [len]; omega) (by rw [upd_at, len]) hu' ⟨hnew, r2, fun i hi => by rw [upd_ne (by omega)]; exact r3 i hi⟩
          rw [len] at g
          rw [nI_1]
          exact g) (fun hR => hQ1 _ _ _ hR (by rw [upd_at]) ⟨hnew, r2, fun i hi => by rw [upd_ne (by omega)]; exact r3 i hi⟩)
        rw [len] at fin
        exact hJ35 _ _ fin
/-- what met tells -/
def MF9 (D1 D2 : DF) (lim : Nat) (L : List Nat) (f : Nat → Int32) : Prop := f 0 = nI L.length ∧ L.length ≤ lim ∧ 1 ≤ L.length ∧ (∀ x ∈ L, x / 32 < D1.1 ∧ x % 32 < D2.1) ∧ ∀ i, i < L.length → f (3 * i + 1) = nI (L.getD i 0)
theorem rr_met {v16 : Int32} {Qn : Nat → (Nat → Int32) → Prop} (h1 : HF na1 fa1 D1) (h2 : HF na2 fa2 D2) (hlim : lim ≤ 200) (hl1 : 1 ≤ lim) (hw : v16 = 0 ↔ ¬ w = 0) (hQ1 : ∀ (L T : List Nat) (f : Nat → Int32), MR9 D1 D2 lim w = some (L, T) → MF9 D1 D2 lim L f → Qn (3 * (lim + 1) + 1) f) (hQ0 : MR9 D1 D2 lim w = none → ∀ f : Nat → Int32, f 0 = nI (lim + 1) → Qn (3 * (lim + 1) + 1) f) : wp_X11_met na1 fa1 na2 fa2 (nI lim) v16 Qn := by
  have d1 := h1.1
  have d2 := h2.1
  have q1 : ∀ (L T : List Nat) (f : Nat → Int32), MR9 D1 D2 lim w = some (L, T) → f 0 = nI L.length → RMT D1 D2 lim (uW D1 D2 w) (MR9 D1 D2 lim w) L T f → Qn (3 * (lim + 1) + 1) f := fun L T f hR hf hM => hQ1 L T f hR ⟨hf, hM.1.2.1, hM.1.2.2.1, hM.2.1, hM.2.2⟩
  have O : ∀ (z x : Nat) (L T : List Nat) (f : Nat → Int32), 201 - x < z → x ≤ L.length → T.length = 3 * x → (x = 0 ∧ f 1 = nI (L.getD 0 0) ∨ f 0 = nI L.length) → RMT D1 D2 lim (uW D1 D2 w) (MR9 D1 D2 lim w) L T f → wpl_X11_met_17 fa1 na1 fa2 na2 (3 * (lim + 1) + 1) (nI lim) v16 Qn z (nI x) (nI L.length) f := by
    intro z
    induction z with
    | zero => intro x L T f hk; exact absurd hk (Nat.not_lt_zero _)
    | succ z ih =>
      intro x L T f hk hx hT hf hM
      have e1 := hM.1
      have hL := e1.2.1
      have hL1 := e1.2.2.1
      refine ⟨fun q => ?_, fun q => ?_⟩
      · rw [nI_leI (by omega) (by omega)] at q
        rcases hf with hf | hf
        · omega
        · exact q1 L T f (e1.done (Or.inl (by omega))) hf hM
      rw [nI_leI (by omega) (by omega)] at q
      -- the step of the sign -1: nothing new, but the test
      refine ⟨5, fun y => absurd y (by decide), fun _ => ⟨by rw [s_t1]; exact s_in (by omega) (by omega), fun J20 hJ20 => ⟨fun y => absurd y (by decide), fun _ => ?_⟩⟩⟩
      have hl : ∀ y ∈ L, y < 1024 := fun y hy => by
        have := hM.2.1 y hy
        have := h1.2.1
        have := h2.2.1
        omega
      have mem : L.getD x 0 ∈ L := getD_mem (by omega)
      rw [s_t1, nI_clamp (by omega), hM.2.2 x (by omega)]
      refine hJ20 _ (rr_mt87 (L := L) (by omega) (by omega) (hl _ mem) hl hM.2.2 ?_)
      have il := idx_lt mem
      intro J35 hJ35
      refine ⟨fun _ => hJ35 _ _ (rr_mtfin h1 h2 hlim hw hM (fun hu => ?_) (fun hR => q1 L T _ hR (by rw [upd_at]) ⟨e1, hM.2.1, fun i hi => by rw [upd_ne (by omega)]; exact hM.2.2 i hi⟩)), fun y => absurd ((nI_eq (by omega) (by omega)).mp y) (by omega)⟩
      have g := rr_mt27 (x := x) (R := MR9 D1 D2 lim w) (K := fun (u52 : Int32) (f53 : Nat → Int32) => wpl_X11_met_17 fa1 na1 fa2 na2 (3 * (lim + 1) + 1) (nI lim) v16 Qn z (nI x + (1 : Int32)) u52 f53) (Qn := Qn) h1 h2 hlim hw (fun L9 T9 f9 z1 z2 z3 z4 => by rw [nI_1]; exact ih (x + 1) L9 T9 f9 (by omega) (by omega) z1 (Or.inr z3) z4) q1 hQ0 4 0 L T (upd f 0 (nI L.length)) (by omega) (by omega) hT (by omega) (by rw [upd_at]) hu ⟨e1, hM.2.1, fun i hi => by rw [upd_ne (by omega)]; exact hM.2.2 i hi⟩
      rw [nI_0] at g
      exact g
  have e8 : ((3 : Int32) * (nI lim + (1 : Int32))) + (1 : Int32) = nI (3 * (lim + 1) + 1) := by rw [nI_1, s_t1]
  unfold wp_X11_met
  rw [e8, nI_clamp (by omega)]
  have g := O 202 0 [0] [] (fun _ => 0) (by omega) (by omega) rfl (Or.inl ⟨rfl, rfl⟩) ⟨EI.start 0 hl1, fun x hx => by simp at hx; subst hx; exact ⟨by omega, by omega⟩, fun i hi => by simp at hi; subst hi; rfl⟩
  rw [nI_0] at g
  exact ⟨⟨nI_pos (by omega), by omega⟩, _, g⟩
end SRL
end
