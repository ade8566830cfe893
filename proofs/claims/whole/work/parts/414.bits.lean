theorem iI_div {a b : Int} (h1 : 0 ≤ a) (h2 : a < 2147483648) (h3 : 0 < b) (h4 : b < 2147483648) : iI a / iI b = iI (a / b) := by
  have h := Int32.ofInt_tdiv (a := a) (b := b) (by show -2147483648 ≤ a; omega) (by show a ≤ 2147483647; omega) (by show -2147483648 ≤ b; omega) (by show b ≤ 2147483647; omega)
  unfold iI
  rw [← h, Int.tdiv_eq_ediv_of_nonneg h1]
theorem iI_mod {a b : Int} (h1 : 0 ≤ a) (h2 : a < 2147483648) (h3 : 0 < b) (h4 : b < 2147483648) : iI a % iI b = iI (a % b) := by
  have h := Int32.ofInt_tmod (a := a) (b := b) (by show -2147483648 ≤ a; omega) (by show a ≤ 2147483647; omega) (by show -2147483648 ≤ b; omega) (by show b ≤ 2147483647; omega)
  unfold iI
  rw [← h, Int.tmod_eq_emod_of_nonneg h1]
theorem iI_bv (a : Nat) : (iI (a : Int)).toBitVec = BitVec.ofNat 32 a := rfl
theorem iI_and (a b : Nat) : iI (a : Int) &&& iI (b : Int) = iI ((a &&& b : Nat) : Int) := by
  apply Int32.toBitVec_inj.mp
  rw [Int32.toBitVec_and, iI_bv, iI_bv, iI_bv]
  apply BitVec.eq_of_toNat_eq
  simp [Nat.and_mod_two_pow]
theorem iI_or (a b : Nat) : iI (a : Int) ||| iI (b : Int) = iI ((a ||| b : Nat) : Int) := by
  apply Int32.toBitVec_inj.mp
  rw [Int32.toBitVec_or, iI_bv, iI_bv, iI_bv]
  apply BitVec.eq_of_toNat_eq
  simp [Nat.or_mod_two_pow]
theorem iI_31 {c : Nat} (h : c < 32) : iI (c : Int) &&& iI 31 = iI (c : Int) := by
  have : iI 31 = iI ((31 : Nat) : Int) := rfl
  rw [this, iI_and, Nat.and_two_pow_sub_one_eq_mod c 5, Nat.mod_eq_of_lt h]
theorem iI_shr {a c : Nat} (ha : a < 2147483648) (h : c < 32) : iI (a : Int) >>> iI (c : Int) = iI ((a >>> c : Nat) : Int) := by
  apply Int32.toBitVec_inj.mp
  rw [Int32.toBitVec_shiftRight, iI_bv, iI_bv, iI_bv]
  apply BitVec.eq_of_toNat_eq
  have e : ((BitVec.ofNat 32 c).smod 32).toNat = c := by
    have : c = 0 ∨ 0 < c := by omega
    have hc : ∀ c : Nat, c < 32 → ((BitVec.ofNat 32 c).smod 32).toNat = c := by decide
    exact hc c h
  show ((BitVec.ofNat 32 a).sshiftRight ((BitVec.ofNat 32 c).smod 32).toNat).toNat = _
  rw [e, BitVec.sshiftRight_eq_of_msb_false]
  · rw [BitVec.toNat_ushiftRight]
    simp only [BitVec.toNat_ofNat]
    rw [Nat.mod_eq_of_lt (by omega), Nat.mod_eq_of_lt]
    exact Nat.lt_of_le_of_lt (Nat.shiftRight_le a c) (by omega)
  · rw [BitVec.msb_eq_decide]
    simp only [BitVec.toNat_ofNat]
    rw [Nat.mod_eq_of_lt (by omega)]
    simp
    omega
theorem iI_shl {a c : Nat} (h : c < 32) : iI (a : Int) <<< iI (c : Int) = iI ((a <<< c : Nat) : Int) := by
  apply Int32.toBitVec_inj.mp
  rw [Int32.toBitVec_shiftLeft, iI_bv, iI_bv, iI_bv]
  apply BitVec.eq_of_toNat_eq
  have e : ((BitVec.ofNat 32 c).smod 32).toNat = c := by
    have hc : ∀ c : Nat, c < 32 → ((BitVec.ofNat 32 c).smod 32).toNat = c := by decide
    exact hc c h
  show ((BitVec.ofNat 32 a) <<< ((BitVec.ofNat 32 c).smod 32).toNat).toNat = _
  rw [e, BitVec.toNat_shiftLeft]
  simp only [BitVec.toNat_ofNat, Nat.shiftLeft_eq]
  rw [Nat.mod_mul_mod]
theorem iI_bit {a c : Nat} (ha : a < 2147483648) (h : c < 32) : (iI (a : Int) >>> (iI (c : Int) &&& iI 31)) &&& iI 1 = bI (a.testBit c = true) := by
  have e1 : iI 1 = iI ((1 : Nat) : Int) := rfl
  rw [iI_31 h, iI_shr ha h, e1, iI_and]
  unfold bI
  rw [Nat.testBit_eq_decide_div_mod_eq, Nat.and_one_is_mod, Nat.shiftRight_eq_div_pow]
  by_cases c1 : a / 2 ^ c % 2 = 1
  · rw [c1]; simp; rfl
  · rw [show a / 2 ^ c % 2 = 0 by omega]; simp; rfl
theorem iI_pow {c : Nat} (h : c < 32) : iI 1 <<< (iI (c : Int) &&& iI 31) = iI ((2 ^ c : Nat) : Int) := by
  have e1 : iI 1 = iI ((1 : Nat) : Int) := rfl
  rw [iI_31 h, e1, iI_shl h, Nat.shiftLeft_eq, Nat.one_mul]
