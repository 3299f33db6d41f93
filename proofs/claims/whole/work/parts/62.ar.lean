/-! Shifts, masks and remainders of numbers that are not below 0. -/
theorem lI_nat (n : Nat) : (lI (n : Int)).toBitVec = BitVec.ofNat 64 n := by
  show BitVec.ofInt 64 (n : Int) = _
  exact BitVec.ofInt_natCast 64 n
theorem lI_Tn {n : Nat} (h : n < 2 ^ 63) : (lI (n : Int)).toInt = (n : Int) := lI_T ⟨by omega, by omega⟩
theorem lI_and {a b : Nat} (ha : a < 2 ^ 63) (hb : b < 2 ^ 63) : lI (a : Int) &&& lI (b : Int) = lI ((a &&& b : Nat) : Int) := by
  apply Int64.toBitVec_inj.1
  rw [Int64.toBitVec_and, lI_nat, lI_nat, lI_nat]
  apply BitVec.eq_of_toNat_eq
  have h1 : a &&& b ≤ a := Nat.and_le_left
  simp only [BitVec.toNat_and, BitVec.toNat_ofNat]
  rw [Nat.mod_eq_of_lt (by omega), Nat.mod_eq_of_lt (by omega), Nat.mod_eq_of_lt (by omega)]
theorem lI_or {a b : Nat} (ha : a < 2 ^ 63) (hb : b < 2 ^ 63) : lI (a : Int) ||| lI (b : Int) = lI ((a ||| b : Nat) : Int) := by
  apply Int64.toBitVec_inj.1
  rw [Int64.toBitVec_or, lI_nat, lI_nat, lI_nat]
  apply BitVec.eq_of_toNat_eq
  have h1 : a ||| b < 2 ^ 63 := Nat.or_lt_two_pow ha hb
  simp only [BitVec.toNat_or, BitVec.toNat_ofNat]
  rw [Nat.mod_eq_of_lt (by omega), Nat.mod_eq_of_lt (by omega), Nat.mod_eq_of_lt (by omega)]
theorem sh_amt : ∀ k : Fin 64, ((iI (k.val : Int)).toInt64 &&& 63) = lI (k.val : Int) := by decide +kernel
theorem sh_mod : ∀ k : Fin 64, ((lI (k.val : Int)).toBitVec.smod 64).toNat = k.val := by decide +kernel
theorem lI_shl {a k : Nat} (hk : k < 64) (h : a * 2 ^ k < 2 ^ 63) : lI (a : Int) <<< ((iI (k : Int)).toInt64 &&& 63) = lI ((a * 2 ^ k : Nat) : Int) := by
  rw [show (iI (k : Int)).toInt64 &&& 63 = lI (k : Int) from sh_amt ⟨k, hk⟩]
  apply Int64.toBitVec_inj.1
  have e : (lI (a : Int) <<< lI (k : Int)).toBitVec = (lI (a : Int)).toBitVec <<< ((lI (k : Int)).toBitVec.smod 64).toNat := rfl
  rw [e, show ((lI (k : Int)).toBitVec.smod 64).toNat = k from sh_mod ⟨k, hk⟩, lI_nat, lI_nat]
  apply BitVec.eq_of_toNat_eq
  have h2 : a ≤ a * 2 ^ k := Nat.le_mul_of_pos_right a (Nat.two_pow_pos k)
  simp only [BitVec.toNat_shiftLeft, BitVec.toNat_ofNat, Nat.shiftLeft_eq]
  rw [Nat.mod_eq_of_lt (show a < 2 ^ 64 by omega)]
theorem lI_shr {a k : Nat} (hk : k < 64) (h : a < 2 ^ 63) : lI (a : Int) >>> ((iI (k : Int)).toInt64 &&& 63) = lI ((a / 2 ^ k : Nat) : Int) := by
  rw [show (iI (k : Int)).toInt64 &&& 63 = lI (k : Int) from sh_amt ⟨k, hk⟩]
  apply Int64.toBitVec_inj.1
  have e : (lI (a : Int) >>> lI (k : Int)).toBitVec = (lI (a : Int)).toBitVec.sshiftRight ((lI (k : Int)).toBitVec.smod 64).toNat := rfl
  rw [e, show ((lI (k : Int)).toBitVec.smod 64).toNat = k from sh_mod ⟨k, hk⟩, lI_nat, lI_nat]
  rw [BitVec.sshiftRight_eq_of_msb_false (by rw [BitVec.msb_eq_false_iff_two_mul_lt, BitVec.toNat_ofNat]; omega)]
  apply BitVec.eq_of_toNat_eq
  have h2 : a / 2 ^ k ≤ a := Nat.div_le_self _ _
  simp only [BitVec.toNat_ushiftRight, BitVec.toNat_ofNat, Nat.shiftRight_eq_div_pow]
  rw [Nat.mod_eq_of_lt (show a < 2 ^ 64 by omega), Nat.mod_eq_of_lt (show a / 2 ^ k < 2 ^ 64 by omega)]
theorem lI_rem {a b : Nat} (hb : 0 < b) (ha : a < 2 ^ 63) (hb2 : b < 2 ^ 63) : lI (a : Int) - lI (a : Int) / lI (b : Int) * lI (b : Int) = lI ((a % b : Nat) : Int) := by
  have e : lI (a : Int) / lI (b : Int) = lI ((a / b : Nat) : Int) := by
    rw [← Int64.toInt_inj, Int64.toInt_div_of_ne_left _ _ (by
      intro q
      have := congrArg Int64.toInt q
      rw [lI_T ⟨by omega, by omega⟩] at this
      have h2 : Int64.minValue.toInt = -9223372036854775808 := by decide
      omega), lI_T ⟨by omega, by omega⟩, lI_T ⟨by omega, by omega⟩]
    have h3 : a / b ≤ a := Nat.div_le_self _ _
    rw [lI_Tn (Nat.lt_of_le_of_lt h3 ha)]
    exact Int.ofNat_tdiv a b |>.symm
  rw [e, lI_mul, lI_sub]
  congr 1
  have h4 := Nat.div_add_mod a b
  have h5 : ((b * (a / b) + a % b : Nat) : Int) = (a : Int) := by rw [h4]
  rw [Int.natCast_add, Int.natCast_mul] at h5
  rw [Int.mul_comm]
  omega
theorem iI_d8 : ∀ k : Fin 1024, iI (k.val : Int) / iI 8 = iI ((k.val / 8 : Nat) : Int) := by decide +kernel
theorem iI_r8 : ∀ k : Fin 1024, iI (k.val : Int) - iI (k.val : Int) / iI 8 * iI 8 = iI ((k.val % 8 : Nat) : Int) := by decide +kernel
theorem iI_s3 : ∀ k : Fin 1024, iI (k.val : Int) >>> (iI 3 &&& 31) = iI ((k.val / 8 : Nat) : Int) := by decide +kernel
theorem iI_a7 : ∀ k : Fin 1024, iI (k.val : Int) &&& iI 7 = iI ((k.val % 8 : Nat) : Int) := by decide +kernel
theorem iI_r2 : ∀ k : Fin 8, iI (k.val : Int) - iI (k.val : Int) / iI 2 * iI 2 = iI ((k.val % 2 : Nat) : Int) := by decide +kernel
theorem iI_D8 {a : Nat} (h : a < 1024) : iI (a : Int) / iI 8 = iI ((a / 8 : Nat) : Int) := iI_d8 ⟨a, h⟩
theorem iI_R8 {a : Nat} (h : a < 1024) : iI (a : Int) - iI (a : Int) / iI 8 * iI 8 = iI ((a % 8 : Nat) : Int) := iI_r8 ⟨a, h⟩
theorem iI_S3 {a : Nat} (h : a < 1024) : iI (a : Int) >>> (iI 3 &&& 31) = iI ((a / 8 : Nat) : Int) := iI_s3 ⟨a, h⟩
theorem iI_A7 {a : Nat} (h : a < 1024) : iI (a : Int) &&& iI 7 = iI ((a % 8 : Nat) : Int) := iI_a7 ⟨a, h⟩
/-- a doubled number and a bit -/
theorem lI_bit {a t : Nat} (h : a < 2 ^ 62) (ht : t < 2) : (lI (a : Int) <<< ((iI 1).toInt64 &&& 63)) ||| lI (t : Int) = lI ((2 * a + t : Nat) : Int) := by
  have e := lI_shl (a := a) (k := 1) (by omega) (by omega)
  rw [show ((1 : Nat) : Int) = 1 from rfl] at e
  rw [e, lI_or (by omega) (by omega)]
  congr 2
  have := Nat.two_pow_add_eq_or_of_lt (i := 1) (b := t) (by omega) a
  rw [Nat.mul_comm] at this
  rw [← this]; omega
theorem lI_byte {a t : Nat} (h : a < 2 ^ 54) (ht : t < 256) : (lI (a : Int) <<< ((iI 8).toInt64 &&& 63)) ||| lI (t : Int) = lI ((256 * a + t : Nat) : Int) := by
  have e := lI_shl (a := a) (k := 8) (by omega) (by omega)
  rw [show ((8 : Nat) : Int) = 8 from rfl] at e
  rw [e, lI_or (by omega) (by omega)]
  congr 2
  have := Nat.two_pow_add_eq_or_of_lt (i := 8) (b := t) (by omega) a
  rw [Nat.mul_comm] at this
  rw [← this]; omega
theorem lI_mask {a k : Nat} (hk : k < 63) (ha : a < 2 ^ 63) : lI (a : Int) &&& lI ((2 ^ k - 1 : Nat) : Int) = lI ((a % 2 ^ k : Nat) : Int) := by
  have h1 : 2 ^ k ≤ 2 ^ 62 := Nat.pow_le_pow_right (by decide) (by omega)
  rw [lI_and ha (by omega), Nat.and_two_pow_sub_one_eq_mod]
