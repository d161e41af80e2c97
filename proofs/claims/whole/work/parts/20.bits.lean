/-! the machine's bit operations and divisions on numbers that aren't negative -/
theorem pz_bv (a : Nat) : (Int32.ofInt (a : Int)).toBitVec = BitVec.ofNat 32 a := by
  rw [Int32.toBitVec_ofInt, BitVec.ofInt_natCast]
theorem pz_bvInt {x : BitVec 32} {n : Nat} (h : x.toNat = n) (hn : n < 2147483648) : x.toInt = (n : Int) := by
  rw [BitVec.toInt_eq_toNat_of_lt (by rw [h]; omega), h]
theorem pz_bvN {a : Nat} (ha : a < 2147483648) : (BitVec.ofNat 32 a).toNat = a := by
  rw [BitVec.toNat_ofNat]
  omega
theorem z_iand_n (a b : Nat) (ha : a < 2147483648) (hb : b < 2147483648) : z_iand (a : Int) (b : Int) = ((a &&& b : Nat) : Int) := by
  unfold z_iand
  show ((Int32.ofInt (a : Int)).toBitVec &&& (Int32.ofInt (b : Int)).toBitVec).toInt = _
  rw [pz_bv, pz_bv]
  refine pz_bvInt ?_ (Nat.lt_of_le_of_lt Nat.and_le_left ha)
  rw [BitVec.toNat_and, pz_bvN ha, pz_bvN hb]
theorem z_ior_n (a b : Nat) (ha : a < 2147483648) (hb : b < 2147483648) : z_ior (a : Int) (b : Int) = ((a ||| b : Nat) : Int) := by
  unfold z_ior
  show ((Int32.ofInt (a : Int)).toBitVec ||| (Int32.ofInt (b : Int)).toBitVec).toInt = _
  rw [pz_bv, pz_bv]
  refine pz_bvInt ?_ (Nat.or_lt_two_pow (n := 31) ha hb)
  rw [BitVec.toNat_or, pz_bvN ha, pz_bvN hb]
/-- a and not b -/
theorem z_andn_n (a b : Nat) (ha : a < 2147483648) (hb : b < 2147483648) : z_iand (a : Int) (z_ixor (b : Int) (-1)) = ((a &&& (2147483647 ^^^ b) : Nat) : Int) := by
  have e : Int32.ofInt (z_ixor (b : Int) (-1)) = Int32.ofInt (b : Int) ^^^ Int32.ofInt (-1) := Int32.ofInt_toInt _
  unfold z_iand
  rw [e]
  show ((Int32.ofInt (a : Int)).toBitVec &&& ((Int32.ofInt (b : Int)).toBitVec ^^^ (Int32.ofInt (-1)).toBitVec)).toInt = _
  rw [pz_bv, pz_bv]
  refine pz_bvInt ?_ (Nat.lt_of_le_of_lt Nat.and_le_left ha)
  rw [BitVec.toNat_and, BitVec.toNat_xor, pz_bvN ha, pz_bvN hb]
  have e2 : (Int32.ofInt (-1)).toBitVec.toNat = 4294967295 := by decide
  rw [e2]
  apply Nat.eq_of_testBit_eq
  intro i
  rw [Nat.testBit_and, Nat.testBit_and, Nat.testBit_xor, Nat.testBit_xor]
  by_cases hi : i < 31
  · have t1 : Nat.testBit 4294967295 i = true := by
      rw [show (4294967295 : Nat) = 2 ^ 32 - 1 from rfl, Nat.testBit_two_pow_sub_one]
      simp; omega
    have t2 : Nat.testBit 2147483647 i = true := by
      rw [show (2147483647 : Nat) = 2 ^ 31 - 1 from rfl, Nat.testBit_two_pow_sub_one]
      simp; omega
    rw [t1, t2]
    cases Nat.testBit b i <;> rfl
  · have t1 : Nat.testBit a i = false := Nat.testBit_lt_two_pow (Nat.lt_of_lt_of_le ha (show 2 ^ 31 ≤ 2 ^ i from Nat.pow_le_pow_right (by decide) (by omega)))
    rw [t1]
    rfl
theorem pz_sh : ∀ k : Nat, k < 32 → ((Int32.ofInt (k : Int) &&& 31).toBitVec.smod 32).toNat = k := by decide
theorem z_ishl_n (a k : Nat) (hk : k < 31) (ha : a * 2 ^ k < 2147483648) : z_ishl (a : Int) (k : Int) = ((a * 2 ^ k : Nat) : Int) := by
  unfold z_ishl
  have ha' : a < 2147483648 := Nat.lt_of_le_of_lt (Nat.le_mul_of_pos_right a (Nat.two_pow_pos k)) ha
  show ((Int32.ofInt (a : Int)).toBitVec <<< ((Int32.ofInt (k : Int) &&& 31).toBitVec.smod 32)).toInt = _
  rw [pz_bv]
  refine pz_bvInt ?_ ha
  rw [BitVec.shiftLeft_eq', BitVec.toNat_shiftLeft, pz_sh k (by omega), pz_bvN ha', Nat.shiftLeft_eq]
  omega
theorem z_ishr_n (a k : Nat) (hk : k < 31) (ha : a < 2147483648) : z_ishr (a : Int) (k : Int) = ((a / 2 ^ k : Nat) : Int) := by
  unfold z_ishr
  show ((Int32.ofInt (a : Int)).toBitVec.sshiftRight' ((Int32.ofInt (k : Int) &&& 31).toBitVec.smod 32)).toInt = _
  rw [pz_bv]
  unfold BitVec.sshiftRight'
  rw [pz_sh k (by omega), BitVec.toInt_sshiftRight, pz_bvInt (pz_bvN ha) ha]
  rw [Int.shiftRight_eq_div_pow]
  norm_cast
theorem z_idiv_n (a b : Nat) (ha : a < 2147483648) (hb : b < 2147483648) : z_idiv (a : Int) (b : Int) = ((a / b : Nat) : Int) := by
  unfold z_idiv
  have h1 := w32_id (n := (a : Int)) (by omega) (by omega)
  have h2 := w32_id (n := (b : Int)) (by omega) (by omega)
  unfold w32 at h1 h2
  have hle : a / b ≤ a := Nat.div_le_self a b
  rw [Int32.toInt_div, h1, h2]
  have e : ((Int32.size : Nat) : Int) = 4294967296 := rfl
  have e3 : (a : Int).tdiv (b : Int) = ((a / b : Nat) : Int) := by
    rw [Int.tdiv_eq_ediv_of_nonneg (by omega)]
    norm_cast
  rw [e3]
  generalize a / b = q at hle ⊢
  clear e3
  exact Int.bmod_eq_of_le (by omega) (by omega)
theorem z_irem_n (a b : Nat) (ha : a < 2147483648) (hb : b < 2147483648) : z_irem (a : Int) (b : Int) = ((a % b : Nat) : Int) := by
  unfold z_irem
  have hd := z_idiv_n a b ha hb
  unfold z_idiv at hd
  have e1 : Int32.ofInt (a : Int) / Int32.ofInt (b : Int) = Int32.ofInt ((a / b : Nat) : Int) := by
    rw [← hd, Int32.ofInt_toInt]
  rw [e1, ← Int32.ofInt_mul, ← Int32.ofInt_sub]
  have e2 : (a : Int) - ((a / b : Nat) : Int) * (b : Int) = ((a % b : Nat) : Int) := by
    have := Nat.div_add_mod a b
    have h9 : (a : Int) = (b : Int) * ((a / b : Nat) : Int) + ((a % b : Nat) : Int) := by exact_mod_cast this.symm
    rw [Int.mul_comm ((a / b : Nat) : Int) (b : Int)]
    omega
  rw [e2]
  have hle : a % b ≤ a := Nat.mod_le a b
  exact w32_id (by omega) (by omega)
