/-! numbers -/
theorem px_clamp {x : Int32} {n : Nat} (h0 : 0 ≤ x.toInt) (h1 : x.toInt < n) : x.toNatClampNeg < n := by
  have h : x.toNatClampNeg = x.toInt.toNat := rfl
  omega
theorem sp_clamp {x : Int32} (h0 : 0 ≤ x.toInt) (h1 : x.toInt < 4) : x.toNatClampNeg < 4 := px_clamp h0 (by exact_mod_cast h1)
theorem px_rng (b : Int32) : -2147483648 ≤ b.toInt ∧ b.toInt < 2147483648 := by
  have h1 := Int32.minValue_le_toInt b
  have h2 := Int32.toInt_lt b
  have h3 : Int32.minValue.toInt = -2147483648 := by decide
  omega
theorem px_lrng (b : Int64) : -9223372036854775808 ≤ b.toInt ∧ b.toInt < 9223372036854775808 := by
  have h1 := Int64.minValue_le_toInt b
  have h2 := Int64.toInt_lt b
  have h3 : Int64.minValue.toInt = -9223372036854775808 := by decide
  omega
theorem px_nat (b : Int32) : b.toInt = if b.toBitVec.toNat < 2147483648 then (b.toBitVec.toNat : Int) else (b.toBitVec.toNat : Int) - 4294967296 := by
  show b.toBitVec.toInt = _
  rw [BitVec.toInt_eq_toNat_cond]
  have := b.toBitVec.isLt
  split <;> split <;> omega
theorem px_and (b : Int32) : (b &&& 2147483647 : Int32).toInt = if b.toInt < 0 then b.toInt + 2147483648 else b.toInt := by
  have h1 : b &&& 2147483647 = nI (b.toBitVec.toNat % 2 ^ 31) := pk_and b 31 (by decide)
  have h2 : b.toBitVec.toNat % 2 ^ 31 < 2 ^ 31 := Nat.mod_lt _ (by decide)
  rw [h1, nI_toInt h2]
  have h3 := px_nat b
  have h4 := b.toBitVec.isLt
  split <;> split at h3 <;> omega
theorem px_bits {a : Nat} (h : a < 2 ^ 31) : (2 ^ 31 + a) ^^^ (2 ^ 31 - 1) = 2 ^ 31 + (2 ^ 31 - (a + 1)) := by
  apply Nat.eq_of_testBit_eq
  intro i
  rw [Nat.testBit_xor, Nat.testBit_two_pow_sub_one]
  rcases Nat.lt_trichotomy i 31 with hi | hi | hi
  · rw [Nat.testBit_two_pow_add_gt hi, Nat.testBit_two_pow_add_gt hi, Nat.testBit_two_pow_sub_succ h]
    simp [hi]
  · subst hi
    rw [Nat.testBit_two_pow_add_eq, Nat.testBit_two_pow_add_eq, Nat.testBit_two_pow_sub_succ h, Nat.testBit_lt_two_pow h]
    simp
  · have e1 : (2 ^ 31 + a) < 2 ^ i := Nat.lt_of_lt_of_le (by omega : 2 ^ 31 + a < 2 ^ 32) (Nat.pow_le_pow_right (by decide) hi)
    have e2 : (2 ^ 31 + (2 ^ 31 - (a + 1))) < 2 ^ i := Nat.lt_of_lt_of_le (by omega : 2 ^ 31 + (2 ^ 31 - (a + 1)) < 2 ^ 32) (Nat.pow_le_pow_right (by decide) hi)
    rw [Nat.testBit_lt_two_pow e1, Nat.testBit_lt_two_pow e2]
    have : ¬ i < 31 := by omega
    simp [this]
theorem px_xor {b : Int32} (h : b.toInt < 0) : (b ^^^ 2147483647 : Int32).toInt = -2147483649 - b.toInt := by
  have h3 := px_nat b
  have h4 := b.toBitVec.isLt
  have hge : ¬ b.toBitVec.toNat < 2147483648 := by
    intro q
    rw [if_pos q] at h3
    omega
  rw [if_neg hge] at h3
  obtain ⟨a, ha⟩ : ∃ a, b.toBitVec.toNat = 2 ^ 31 + a := ⟨b.toBitVec.toNat - 2 ^ 31, by omega⟩
  have hx : (b ^^^ 2147483647 : Int32).toBitVec.toNat = 2 ^ 31 + (2 ^ 31 - (a + 1)) := by
    have e1 : (b ^^^ 2147483647 : Int32).toBitVec = b.toBitVec ^^^ (2147483647 : Int32).toBitVec := rfl
    rw [e1, BitVec.toNat_xor, ha]
    exact px_bits (by omega)
  have h5 := px_nat (b ^^^ 2147483647 : Int32)
  rw [hx] at h5
  split at h5 <;> omega
theorem px_lsub {a b : Int64} (h1 : -4611686018427387904 ≤ a.toInt - b.toInt) (h2 : a.toInt - b.toInt < 4611686018427387904) : (a - b).toInt = a.toInt - b.toInt := by
  rw [Int64.toInt_sub]
  rw [Int.bmod_eq_of_le] <;> omega
theorem px_xorL {b : Int32} (h : b.toInt < 0) : (b ^^^ 2147483647 : Int32).toInt64 = -1 - (b &&& 2147483647 : Int32).toInt64 := by
  apply Int64.toInt_inj.mp
  have h1 := px_and b
  have h2 := px_rng b
  rw [if_pos h] at h1
  have hm : (-1 : Int64).toInt = -1 := by decide
  rw [px_lsub (by rw [hm, Int32.toInt_toInt64]; omega) (by rw [hm, Int32.toInt_toInt64]; omega), hm, Int32.toInt_toInt64, Int32.toInt_toInt64, px_xor h, h1]
  omega
theorem px_andL {b : Int32} (h : ¬ b.toInt < 0) : b.toInt64 = (b &&& 2147483647 : Int32).toInt64 := by
  apply Int64.toInt_inj.mp
  have h1 := px_and b
  rw [if_neg h] at h1
  rw [Int32.toInt_toInt64, Int32.toInt_toInt64, h1]
theorem px_bitsL {b : Int32} (h : b.toInt < 0) : (b ^^^ 2147483647 : Int32).toInt64 = -1 - b.toInt64 - 2147483648 := by
  apply Int64.toInt_inj.mp
  have h2 := px_rng b
  have hm : (-1 : Int64).toInt = -1 := by decide
  have hn : (2147483648 : Int64).toInt = 2147483648 := by decide
  have e1 : (-1 - b.toInt64).toInt = -1 - b.toInt := by
    rw [px_lsub (by rw [hm, Int32.toInt_toInt64]; omega) (by rw [hm, Int32.toInt_toInt64]; omega), hm, Int32.toInt_toInt64]
  rw [px_lsub (by rw [e1, hn]; omega) (by rw [e1, hn]; omega), e1, hn, Int32.toInt_toInt64, px_xor h]
  omega
def sp_node (k x : Int32) : Int32 := if k.toInt < 0 ∨ 15 < k.toInt then -2 else if k.toInt = 1 then (if 0 ≤ x.toInt ∧ x.toInt < 4 then 0 else -1) else if k.toInt = 0 then 0 else -1
def sp_range (v a b : Int32) : Int32 := if ¬ (0 ≤ v.toInt ∧ v.toInt < 4) then -1 else if (-2139095041 ≤ a.toInt ∧ a.toInt ≤ 2139095040) ∧ (-2139095041 ≤ b.toInt ∧ b.toInt ≤ 2139095040) ∧ a.toInt ≤ b.toInt then 1 else -2
def sp_set (v a : Int32) : Int32 := if ¬ (0 ≤ v.toInt ∧ v.toInt < 4) then -1 else if -2139095041 ≤ a.toInt ∧ a.toInt ≤ 2139095040 then 1 else -2
def sp_place (b : Int32) : Int64 := if 2139095040 < (b &&& 2147483647 : Int32).toInt then -9223372036854775808 else if b.toInt < 0 then (b ^^^ 2147483647 : Int32).toInt64 else b.toInt64
def sp_bits (b : Int32) : Int64 := if -2139095041 ≤ b.toInt ∧ b.toInt ≤ 2139095040 then (if b.toInt < 0 then (b ^^^ 2147483647 : Int32).toInt64 else b.toInt64) else -9223372036854775808
def sp_solve (w : Int32) : Int32 := if 1 ≤ w.toInt ∧ w.toInt ≤ 5000 then 1 else -2
def sp_width (v n : Int32) : Int64 := if 0 ≤ v.toInt ∧ v.toInt < 4 then 4278190082 / n.toInt64 else -9223372036854775808
theorem px_ne0 {n : Int32} (h : ¬ n.toInt = 0) : ¬ n.toInt64 = 0 := fun q => h (by rw [← Int32.toInt_toInt64, q]; rfl)
theorem px_neq2 (b : Int32) : ¬ ((b &&& 2147483647 : Int32).toInt64).toInt = 9000000000 := by
  have h := px_rng (b &&& 2147483647 : Int32)
  rw [Int32.toInt_toInt64]
  omega
theorem px_neq1 (b : Int32) : ¬ (-1 - (b &&& 2147483647 : Int32).toInt64).toInt = 9000000000 := by
  have h := px_rng (b &&& 2147483647 : Int32)
  have hm : (-1 : Int64).toInt = -1 := by decide
  rw [px_lsub (by rw [hm, Int32.toInt_toInt64]; omega) (by rw [hm, Int32.toInt_toInt64]; omega), hm, Int32.toInt_toInt64]
  omega
theorem px_iadd {x y : Int32} (h1 : -2147483648 ≤ x.toInt + y.toInt) (h2 : x.toInt + y.toInt < 2147483648) : (x + y).toInt = x.toInt + y.toInt := by
  rw [Int32.toInt_add]
  rw [Int.bmod_eq_of_le] <;> omega
theorem px_isub {x y : Int32} (h1 : -2147483648 ≤ x.toInt - y.toInt) (h2 : x.toInt - y.toInt < 2147483648) : (x - y).toInt = x.toInt - y.toInt := by
  rw [Int32.toInt_sub]
  rw [Int.bmod_eq_of_le] <;> omega
theorem px_ladd {x y : Int64} (h1 : -9223372036854775808 ≤ x.toInt + y.toInt) (h2 : x.toInt + y.toInt < 9223372036854775808) : (x + y).toInt = x.toInt + y.toInt := by
  rw [Int64.toInt_add]
  rw [Int.bmod_eq_of_le] <;> omega
theorem px_cl {x : Int32} (h : 0 ≤ x.toInt) : ((x.toNatClampNeg : Nat) : Int) = x.toInt := by
  have e : x.toNatClampNeg = x.toInt.toNat := rfl
  omega
theorem px_shr1 {x : Int64} (h : 0 < x.toInt) : 0 ≤ (x >>> ((1 : Int32).toInt64 &&& 63)).toInt ∧ (x >>> ((1 : Int32).toInt64 &&& 63)).toInt < x.toInt := by
  have e1 : ((1 : Int32).toInt64 &&& 63 : Int64) = 1 := by decide
  rw [e1]
  have e2 : (x >>> (1 : Int64)).toBitVec = x.toBitVec.sshiftRight 1 := rfl
  have e3 : (x >>> (1 : Int64)).toInt = x.toInt >>> 1 := by
    show (x >>> (1 : Int64)).toBitVec.toInt = _
    rw [e2, BitVec.toInt_sshiftRight]
    rfl
  rw [e3, Int.shiftRight_eq_div_pow]
  omega
theorem px_updS (f : Nat → Int32) (k : Nat) (x : Int32) : upd f k x k = x := if_pos rfl
theorem px_updO (f : Nat → Int32) {k j : Nat} (x : Int32) (h : ¬ j = k) : upd f k x j = f j := if_neg h
theorem px_addsub (x : Int32) : x + 1 - 1 = x := Int32.add_sub_cancel x 1
def sq_po (b : Int32) : Int32 := if b.toInt < 0 then b ^^^ 2147483647 else b
def sq_node (k x y c : Int32) : Int32 := if k.toInt < 0 ∨ 15 < k.toInt then -2 else if k.toInt = 1 ∧ ¬ (0 ≤ x.toInt ∧ x.toInt < 4) then -1 else if 2 ≤ k.toInt ∧ ¬ (0 ≤ x.toInt ∧ x.toInt < c.toInt) then -1 else if ((2 ≤ k.toInt ∧ k.toInt ≤ 5) ∨ k.toInt = 8 ∨ k.toInt = 9 ∨ k.toInt = 14) ∧ ¬ (0 ≤ y.toInt ∧ y.toInt < c.toInt) then -1 else if c.toInt = 40 then -4 else c
def sq_nodeC (k x y c : Int32) : Int32 := if k.toInt < 0 ∨ 15 < k.toInt then c else if k.toInt = 1 ∧ ¬ (0 ≤ x.toInt ∧ x.toInt < 4) then c else if 2 ≤ k.toInt ∧ ¬ (0 ≤ x.toInt ∧ x.toInt < c.toInt) then c else if ((2 ≤ k.toInt ∧ k.toInt ≤ 5) ∨ k.toInt = 8 ∨ k.toInt = 9 ∨ k.toInt = 14) ∧ ¬ (0 ≤ y.toInt ∧ y.toInt < c.toInt) then c else if c.toInt = 40 then c else c + 1
def sq_rule (k x y c d : Int32) : Int32 := if ¬ (0 ≤ x.toInt ∧ x.toInt < c.toInt) ∨ (¬ k.toInt = 4 ∧ ¬ k.toInt = 5 ∧ ¬ (0 ≤ y.toInt ∧ y.toInt < c.toInt)) then -1 else if k.toInt < 0 ∨ 5 < k.toInt then -2 else if d.toInt = 12 then -4 else d
def sq_ruleC (k x y c d : Int32) : Int32 := if ¬ (0 ≤ x.toInt ∧ x.toInt < c.toInt) ∨ (¬ k.toInt = 4 ∧ ¬ k.toInt = 5 ∧ ¬ (0 ≤ y.toInt ∧ y.toInt < c.toInt)) then d else if k.toInt < 0 ∨ 5 < k.toInt then d else if d.toInt = 12 then d else d + 1
def sq_put (v a b : Int32) (f : Nat → Int32) (x : Int32) : Nat → Int32 := if (0 ≤ v.toInt ∧ v.toInt < 4) ∧ (-2139095041 ≤ a.toInt ∧ a.toInt ≤ 2139095040) ∧ (-2139095041 ≤ b.toInt ∧ b.toInt ≤ 2139095040) ∧ a.toInt ≤ b.toInt then upd f v.toNatClampNeg x else f
