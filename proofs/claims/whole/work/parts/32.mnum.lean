/-! THE REFERENCE: numbers, packed -/
theorem zl_tn (a : Int) : (Int64.ofInt a).toBitVec.toNat = (a % 18446744073709551616).toNat := by
  rw [Int64.toBitVec_ofInt, BitVec.toNat_ofInt]
  rfl
theorem wl_ex (x : Int64) : ∃ w : Int, x = Int64.ofInt w := ⟨x.toInt, (Int64.ofInt_toInt x).symm⟩
theorem xl_or (a b : Nat) : Int64.ofInt (a : Int) ||| Int64.ofInt (b : Int) = Int64.ofInt ((a ||| b : Nat) : Int) := by
  apply Int64.toBitVec_inj.mp
  apply BitVec.eq_of_toNat_eq
  rw [Int64.toBitVec_or, BitVec.toNat_or, zl_tn, zl_tn, zl_tn]
  rw [show ((a : Int) % 18446744073709551616).toNat = a % 2 ^ 64 by omega, show ((b : Int) % 18446744073709551616).toNat = b % 2 ^ 64 by omega, show (((a ||| b : Nat) : Int) % 18446744073709551616).toNat = (a ||| b) % 2 ^ 64 by omega, Nat.or_mod_two_pow]
theorem xl_and (a b : Nat) : Int64.ofInt (a : Int) &&& Int64.ofInt (b : Int) = Int64.ofInt ((a &&& b : Nat) : Int) := by
  apply Int64.toBitVec_inj.mp
  apply BitVec.eq_of_toNat_eq
  rw [Int64.toBitVec_and, BitVec.toNat_and, zl_tn, zl_tn, zl_tn]
  rw [show ((a : Int) % 18446744073709551616).toNat = a % 2 ^ 64 by omega, show ((b : Int) % 18446744073709551616).toNat = b % 2 ^ 64 by omega, show (((a &&& b : Nat) : Int) % 18446744073709551616).toNat = (a &&& b) % 2 ^ 64 by omega, Nat.and_mod_two_pow]
theorem xl_dif (a b : Nat) : Int64.ofInt (a : Int) &&& (Int64.ofInt (b : Int) ^^^ Int64.ofInt (-1)) = Int64.ofInt ((a ^^^ (a &&& b) : Nat) : Int) := by
  apply Int64.toBitVec_inj.mp
  have h : ∀ x y : BitVec 64, x &&& (y ^^^ (Int64.ofInt (-1)).toBitVec) = x ^^^ (x &&& y) := by
    intro x y
    apply BitVec.eq_of_getLsbD_eq
    intro i hi
    have hm : (Int64.ofInt (-1)).toBitVec = BitVec.allOnes 64 := by decide
    rw [hm]
    simp only [BitVec.getLsbD_and, BitVec.getLsbD_xor, BitVec.getLsbD_allOnes, hi, decide_true]
    cases x.getLsbD i <;> cases y.getLsbD i <;> rfl
  rw [Int64.toBitVec_and, Int64.toBitVec_xor, h]
  apply BitVec.eq_of_toNat_eq
  rw [BitVec.toNat_xor, BitVec.toNat_and, zl_tn, zl_tn, zl_tn]
  rw [show ((a : Int) % 18446744073709551616).toNat = a % 2 ^ 64 by omega, show ((b : Int) % 18446744073709551616).toNat = b % 2 ^ 64 by omega, show (((a ^^^ (a &&& b) : Nat) : Int) % 18446744073709551616).toNat = (a ^^^ (a &&& b)) % 2 ^ 64 by omega, Nat.xor_mod_two_pow, Nat.and_mod_two_pow]
theorem zl_shm {b : Int} (hb : 0 ≤ b ∧ b < 64) : (((Int32.ofInt b).toInt64 &&& 63).toBitVec.smod 64).toNat = b.toNat := by
  have h : ∀ n, n < 64 → (((Int32.ofInt ((n : Nat) : Int)).toInt64 &&& 63).toBitVec.smod 64).toNat = n := by decide +kernel
  have := h b.toNat (by omega)
  rwa [Int.toNat_of_nonneg hb.1] at this
theorem xl_shl {a : Nat} {b : Int} (hb : 0 ≤ b ∧ b < 64) : Int64.ofInt (a : Int) <<< ((Int32.ofInt b).toInt64 &&& 63) = Int64.ofInt ((a * 2 ^ b.toNat : Nat) : Int) := by
  apply Int64.toBitVec_inj.mp
  apply BitVec.eq_of_toNat_eq
  rw [Int64.toBitVec_shiftLeft, BitVec.shiftLeft_eq', zl_shm hb, BitVec.toNat_shiftLeft, zl_tn, zl_tn, Nat.shiftLeft_eq]
  rw [show ((a : Int) % 18446744073709551616).toNat = a % 2 ^ 64 by omega, show (((a * 2 ^ b.toNat : Nat) : Int) % 18446744073709551616).toNat = (a * 2 ^ b.toNat) % 2 ^ 64 by omega, Nat.mod_mul_mod]
theorem xl_shr {a : Int} {b : Int} (ha : InL a) (hb : 0 ≤ b ∧ b < 64) : Int64.ofInt a >>> ((Int32.ofInt b).toInt64 &&& 63) = Int64.ofInt (a / 2 ^ b.toNat) := by
  apply Int64.toInt_inj.mp
  have h2 : (1 : Int) ≤ 2 ^ b.toNat := by exact_mod_cast Nat.one_le_two_pow
  have h3 : InL (a / 2 ^ b.toNat) := by
    constructor
    · have := Int.ediv_le_ediv (a := -9223372036854775808) (b := a) (c := 2 ^ b.toNat) (by omega) ha.1
      have h5 : (-9223372036854775808 : Int) ≤ -9223372036854775808 / 2 ^ b.toNat := by
        apply Int.le_ediv_of_mul_le (by omega)
        omega
      omega
    · by_cases q : 0 ≤ a
      · have := Int.ediv_le_self (2 ^ b.toNat) q
        omega
      · have := Int.ediv_neg_of_neg_of_pos (a := a) (b := 2 ^ b.toNat) (by omega) (by omega)
        omega
  rw [zl_toInt h3]
  show (Int64.ofInt a >>> ((Int32.ofInt b).toInt64 &&& 63)).toBitVec.toInt = _
  rw [Int64.toBitVec_shiftRight, BitVec.sshiftRight_eq', zl_shm hb, BitVec.toInt_sshiftRight]
  show (Int64.ofInt a).toInt >>> b.toNat = _
  rw [zl_toInt ha, Int.shiftRight_eq_div_pow]
  norm_cast
theorem xl_m3 {a : Int} (ha : 0 ≤ a) : Int64.ofInt a &&& Int64.ofInt 3 = Int64.ofInt (a % 4) := by
  have h := xl_and a.toNat 3
  rw [Int.toNat_of_nonneg ha] at h
  rw [show (Int64.ofInt 3) = Int64.ofInt ((3 : Nat) : Int) from rfl, h, Nat.and_two_pow_sub_one_eq_mod a.toNat 2]
  congr 1
  omega
theorem xl_l2i (a : Int) : (Int64.ofInt a).toInt32 = Int32.ofInt a := by
  apply Int32.toBitVec_inj.mp
  apply BitVec.eq_of_toNat_eq
  rw [Int64.toBitVec_toInt32, BitVec.toNat_signExtend, z_tn]
  simp
  omega
theorem z_shl {a : Nat} {b : Int} (hb : 0 ≤ b ∧ b < 32) : Int32.ofInt (a : Int) <<< (Int32.ofInt b &&& 31) = Int32.ofInt ((a * 2 ^ b.toNat : Nat) : Int) := by
  apply Int32.toBitVec_inj.mp
  apply BitVec.eq_of_toNat_eq
  rw [Int32.toBitVec_shiftLeft, BitVec.shiftLeft_eq', z_shm hb, BitVec.toNat_shiftLeft, z_tn, z_tn, Nat.shiftLeft_eq]
  rw [show ((a : Int) % 4294967296).toNat = a % 2 ^ 32 by omega, show (((a * 2 ^ b.toNat : Nat) : Int) % 4294967296).toNat = (a * 2 ^ b.toNat) % 2 ^ 32 by omega, Nat.mod_mul_mod]
theorem or_add {a b k : Nat} (h : b < 2 ^ k) : a * 2 ^ k ||| b = a * 2 ^ k + b := by
  rw [← Nat.shiftLeft_eq]
  exact (Nat.shiftLeft_add_eq_or_of_lt h a).symm
theorem and_pair (a k : Nat) : a &&& (3 * 2 ^ k) = (a / 2 ^ k % 4) * 2 ^ k := by
  apply Nat.eq_of_testBit_eq
  intro i
  rw [Nat.testBit_and, Nat.testBit_mul_two_pow, Nat.testBit_mul_two_pow]
  by_cases h : k ≤ i
  · have e : a / 2 ^ k % 4 = (a / 2 ^ k) &&& 3 := (Nat.and_two_pow_sub_one_eq_mod (a / 2 ^ k) 2).symm
    rw [e, Nat.testBit_and, Nat.testBit_div_two_pow]
    simp [h]
  · simp [h]
theorem put_pair {a s k : Nat} (hs : s < 4) : (a ^^^ (a &&& (3 * 2 ^ k))) ||| (s * 2 ^ k) = a - (a / 2 ^ k % 4) * 2 ^ k + s * 2 ^ k := by
  have h1 : (a ^^^ (a &&& (3 * 2 ^ k))) = (a / 2 ^ k / 4) * 2 ^ (k + 2) + a % 2 ^ k := by
    apply Nat.eq_of_testBit_eq
    intro i
    have hlt : a % 2 ^ k < 2 ^ (k + 2) := Nat.lt_of_lt_of_le (Nat.mod_lt _ (Nat.two_pow_pos k)) (Nat.pow_le_pow_right (by decide) (by omega))
    rw [← or_add hlt, Nat.testBit_xor, Nat.testBit_and, Nat.testBit_or, Nat.testBit_mul_two_pow, Nat.testBit_mul_two_pow, Nat.testBit_mod_two_pow]
    have h3 : ∀ j, Nat.testBit 3 j = decide (j < 2) := fun j => by
      have : (3 : Nat) = 2 ^ 2 - 1 := rfl
      rw [this, Nat.testBit_two_pow_sub_one]
    rw [h3, show a / 2 ^ k / 4 = a / 2 ^ (k + 2) by rw [Nat.div_div_eq_div_mul, Nat.pow_add], Nat.testBit_div_two_pow]
    by_cases c1 : i < k
    · have c2 : ¬ k ≤ i := by omega
      have c3 : ¬ k + 2 ≤ i := by omega
      simp [c1, c2, c3]
    · by_cases c4 : k + 2 ≤ i
      · have c2 : k ≤ i := by omega
        have c5 : ¬ (i - k < 2) := by omega
        have c6 : k + 2 + (i - (k + 2)) = i := by omega
        simp [c1, c2, c4, c5, c6]
      · have c2 : k ≤ i := by omega
        have c5 : i - k < 2 := by omega
        simp [c1, c2, c4, c5]
  have h2 : s * 2 ^ k + a % 2 ^ k < 2 ^ (k + 2) := by
    have := Nat.mod_lt a (Nat.two_pow_pos k)
    have e : 2 ^ (k + 2) = 4 * 2 ^ k := by rw [Nat.pow_add]; omega
    have : s * 2 ^ k ≤ 3 * 2 ^ k := Nat.mul_le_mul_right _ (by omega)
    omega
  have hlt : a % 2 ^ k < 2 ^ (k + 2) := by omega
  rw [h1, ← or_add hlt, Nat.or_assoc, Nat.or_comm (a % 2 ^ k), or_add (Nat.mod_lt a (Nat.two_pow_pos k)), or_add h2]
  have e1 := Nat.div_add_mod a (2 ^ k)
  have e2 := Nat.div_add_mod (a / 2 ^ k) 4
  have e3 : 2 ^ (k + 2) = 4 * 2 ^ k := by rw [Nat.pow_add]; omega
  generalize a / 2 ^ k = u at *
  generalize a % 2 ^ k = v at *
  generalize 2 ^ k = P at *
  rw [e3]
  have e4 : u / 4 * (4 * P) = 4 * (u / 4) * P := by rw [← Nat.mul_assoc, Nat.mul_comm (u / 4) 4]
  have e5 : P * u = 4 * (u / 4) * P + u % 4 * P := by rw [← Nat.add_mul, e2, Nat.mul_comm]
  omega
/-- digit j of a number in base four -/
def dg (g : Int) (j : Int) : Int := g / 4 ^ j.toNat % 4
theorem p4 (n : Nat) : (4 : Int) ^ n = 2 ^ (2 * n) := by rw [Int.pow_mul]; rfl
theorem dg_r (g j : Int) : 0 ≤ dg g j ∧ dg g j < 4 := by unfold dg; omega
