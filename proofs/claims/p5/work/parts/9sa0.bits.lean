section SBI
/-! numbers as naturals: nI for what counts, nn for what is a set (by its bits), ll for a set that is a long -/
theorem s_mul (a b : Nat) : nI a * nI b = nI (a * b) := (Int32.ofNat_mul a b).symm
theorem s_of {x : Int32} {a : Nat} (h : x.toInt = (a : Int)) (ha : a < 2 ^ 31) : x = nI a := l_eq.mpr (by rw [h, nI_toInt ha])
theorem s_ex {x : Int32} (h : 0 ≤ x.toInt) : ∃ a : Nat, a < 2 ^ 31 ∧ x = nI a := ⟨x.toInt.toNat, by have := x.toInt_lt; omega, s_of (by omega) (by have := x.toInt_lt; omega)⟩
theorem s_in {a n : Nat} (h : a < n) (ha : a < 2 ^ 31) : vp_in (nI a) n := vp_in_iff.mpr (by rw [nI_toInt ha]; omega)
theorem s_inv {a n : Nat} (h : vp_in (nI a) n) (ha : a < 2 ^ 31) : a < n := by
  rw [vp_in_iff, nI_toInt ha] at h
  omega
theorem s_sub {a b : Nat} (h : b ≤ a) (ha : a < 2 ^ 31) : nI a - nI b = nI (a - b) := by
  refine s_of ?_ (by omega)
  rw [ii_s (nI_toInt ha) (nI_toInt (by omega)) (by omega) (by omega)]
  omega
theorem s_div {a b : Nat} (hb : 0 < b) (ha : a < 2 ^ 31) (hb2 : b < 2 ^ 31) : nI a / nI b = nI (a / b) := by
  refine s_of ?_ (Nat.lt_of_le_of_lt (Nat.div_le_self a b) ha)
  rw [ii_d (nI_toInt ha) (nI_toInt hb2) (by omega) (by omega)]
  rfl
theorem s_mod {a b : Nat} (hb : 0 < b) (ha : a < 2 ^ 31) (hb2 : b < 2 ^ 31) : nI a - nI a / nI b * nI b = nI (a % b) := by
  have h1 := Nat.div_add_mod a b
  have h2 := Nat.div_mul_le_self a b
  rw [s_div hb ha hb2, s_mul, s_sub h2 ha]
  congr 1
  rw [Nat.mul_comm] at h1
  omega
def nn (x : Int32) : Nat := x.toBitVec.toNat
def ll (x : Int64) : Nat := x.toBitVec.toNat
theorem nn_inj {x y : Int32} (h : nn x = nn y) : x = y := Int32.toBitVec_inj.mp (BitVec.eq_of_toNat_eq h)
theorem ll_inj {x y : Int64} (h : ll x = ll y) : x = y := Int64.toBitVec_inj.mp (BitVec.eq_of_toNat_eq h)
theorem nn_eq {x y : Int32} : x = y ↔ nn x = nn y := ⟨fun h => h ▸ rfl, nn_inj⟩
theorem ll_eq {x y : Int64} : x = y ↔ ll x = ll y := ⟨fun h => h ▸ rfl, ll_inj⟩
theorem nn_or (x y : Int32) : nn (x ||| y) = nn x ||| nn y := by unfold nn; rw [Int32.toBitVec_or, BitVec.toNat_or]
theorem nn_and (x y : Int32) : nn (x &&& y) = nn x &&& nn y := by unfold nn; rw [Int32.toBitVec_and, BitVec.toNat_and]
theorem nn_xor (x y : Int32) : nn (x ^^^ y) = nn x ^^^ nn y := by unfold nn; rw [Int32.toBitVec_xor, BitVec.toNat_xor]
theorem ll_or (x y : Int64) : ll (x ||| y) = ll x ||| ll y := by unfold ll; rw [Int64.toBitVec_or, BitVec.toNat_or]
theorem ll_and (x y : Int64) : ll (x &&& y) = ll x &&& ll y := by unfold ll; rw [Int64.toBitVec_and, BitVec.toNat_and]
theorem nn_lt (x : Int32) : nn x < 2 ^ 32 := x.toBitVec.isLt
theorem nn_0 : nn 0 = 0 := by decide
theorem ll_0 : ll 0 = 0 := by decide
theorem nn_nI {a : Nat} (h : a < 2 ^ 32) : nn (nI a) = a := by
  show (BitVec.ofNat 32 a).toNat = a
  rw [BitVec.toNat_ofNat]
  exact Nat.mod_eq_of_lt h
/-- a set of the first n numbers -/
theorem nn_nonneg {x : Int32} (h : nn x < 2 ^ 31) : x.toInt = (nn x : Int) := by
  rw [← Int32.toInt_toBitVec]
  exact BitVec.toInt_eq_toNat_of_lt (by unfold nn at h; omega)
theorem ll_toInt64 {x : Int32} (h : nn x < 2 ^ 31) : ll x.toInt64 = nn x := by
  have e : x = nI (nn x) := s_of (nn_nonneg h) h
  have e2 : (nI (nn x)).toInt64 = lN (nn x) := nI_l h
  rw [e, e2]
  show (BitVec.ofNat 64 (nn x)).toNat = nn (nI (nn x))
  rw [BitVec.toNat_ofNat, nn_nI (by omega)]
  exact Nat.mod_eq_of_lt (by omega)
theorem nn_two : ∀ i, i < 32 → nn ((1 : Int32) <<< (nI i &&& 31)) = 2 ^ i := by decide +kernel
theorem ll_two : ∀ i, i < 64 → ll ((1 : Int64) <<< ((nI i).toInt64 &&& 63)) = 2 ^ i := by decide +kernel
theorem nn_not : ∀ i, i < 32 → nn (((1 : Int32) <<< (nI i &&& 31)) ^^^ (-1 : Int32)) = 2 ^ 32 - 1 - 2 ^ i := by decide +kernel
theorem s_l : ∀ n, n < 32 → ((nI n &&& 31).toBitVec.smod 32).toNat = n := by decide +kernel
theorem s_l64 : ∀ n, n < 64 → (((nI n).toInt64 &&& 63).toBitVec.smod 64).toNat = n := by decide +kernel
theorem bit0 (x : Nat) : x &&& 1 = 0 ↔ x.testBit 0 = false := by
  rw [Nat.and_one_is_mod, Nat.testBit_zero]
  simp
/-- the class's isIn -/
theorem s_isIn {x : Int32} {i : Nat} (hi : i < 32) : (x >>> (nI i &&& 31)) &&& (1 : Int32) = 0 ↔ (nn x).testBit i = false := by
  rw [nn_eq, nn_and, nn_0, show nn 1 = 1 from by decide, bit0]
  show (x >>> (nI i &&& 31)).toBitVec.toNat.testBit 0 = false ↔ _
  rw [Int32.toBitVec_shiftRight]
  show (x.toBitVec.sshiftRight ((nI i &&& 31).toBitVec.smod 32).toNat).toNat.testBit 0 = false ↔ _
  rw [s_l i hi, BitVec.testBit_toNat, BitVec.getLsbD_sshiftRight]
  have h : 0 + i < 32 ∧ i + 0 < 32 := by omega
  simp [hi, nn, BitVec.testBit_toNat]
/-- the reference's test of a bit -/
theorem s_isInL {x : Int64} {i : Nat} (hi : i < 64) : lg_cmp ((x >>> ((nI i).toInt64 &&& 63)) &&& (1 : Int64)) (1 : Int64) = 0 ↔ (ll x).testBit i = true := by
  rw [lg_cmp_eq, ll_eq, ll_and, show ll 1 = 1 from by decide]
  have e : (ll (x >>> ((nI i).toInt64 &&& 63))).testBit 0 = (ll x).testBit i := by
    show (x >>> ((nI i).toInt64 &&& 63)).toBitVec.toNat.testBit 0 = _
    rw [Int64.toBitVec_shiftRight]
    show (x.toBitVec.sshiftRight (((nI i).toInt64 &&& 63).toBitVec.smod 64).toNat).toNat.testBit 0 = _
    rw [s_l64 i hi, BitVec.testBit_toNat, BitVec.getLsbD_sshiftRight]
    simp [hi, ll, BitVec.testBit_toNat]
  rw [← e, Nat.and_one_is_mod, Nat.testBit_zero]
  simp
theorem s_ext {x y : Nat} (h : ∀ i, x.testBit i = y.testBit i) : x = y := Nat.eq_of_testBit_eq h
theorem s_big {x n i : Nat} (h : x < 2 ^ n) (hi : n ≤ i) : x.testBit i = false := Nat.testBit_lt_two_pow (Nat.lt_of_lt_of_le h (Nat.pow_le_pow_right (by decide) hi))
theorem s_lt2 {x n : Nat} (h : ∀ i, n ≤ i → x.testBit i = false) : x < 2 ^ n := Nat.lt_pow_two_of_testBit x (fun i hi => h i hi)
theorem s_or2 {x i : Nat} : ∀ j, (x ||| 2 ^ i).testBit j = (x.testBit j || decide (i = j)) := fun j => by
  rw [Nat.testBit_or, Nat.testBit_two_pow]
end SBI
