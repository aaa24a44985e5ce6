/-! leading zeros, digits, powers, the nearest FLOAT: the class's own -/
theorem kz_m {n k : Nat} (h : k ≤ n) (hn : n < 2147483648) (c : Int32) (hc : c.toInt = -(k : Int)) : nI n + c = nI (n - k) := by
  apply Int32.toInt_inj.mp
  rw [px_iadd (by rw [nI_toInt (by omega)]; omega) (by rw [nI_toInt (by omega)]; omega), nI_toInt (by omega), nI_toInt (by omega)]
  omega
theorem kz_stage {a b n k : Nat} (hb : 2 ^ k ≤ b) (hl : Nat.log2 a + n = 31 + Nat.log2 b) (ha : Nat.log2 a ≤ 30) : k ≤ n ∧ Nat.log2 a + (n - k) = 31 + Nat.log2 (b / 2 ^ k) ∧ 0 < b / 2 ^ k := by
  have h1 := fz_logdiv hb
  have h2 := Nat.div_pos hb (Nat.two_pow_pos k)
  exact ⟨by omega, by omega, h2⟩
theorem kz_last {b : Nat} (h0 : 0 < b) (h : b < 4) : Nat.log2 b = b / 2 := by
  rcases (show b = 1 ∨ b = 2 ∨ b = 3 by omega) with rfl | rfl | rfl
  · exact fz_log (k := 0) (by decide) (by decide)
  · exact fz_log (k := 1) (by decide) (by decide)
  · exact fz_log (k := 1) (by decide) (by decide)
theorem kz_nlz32 {a : Nat} (h0 : 0 < a) (h : a < 2147483648) : kJ6_numberOfLeadingZeros_0f7a4 (nI a) = nI (31 - Nat.log2 a) := by
  have ha : Nat.log2 a ≤ 30 := fz_logle (by omega) (by omega)
  have s1 : ∃ b n, kJ6_numberOfLeadingZeros_0f7a4_33_z5 (nI a) = nI n ∧ kJ6_numberOfLeadingZeros_0f7a4_33_z6 (nI a) = nI b ∧ 0 < b ∧ b < 65536 ∧ n ≤ 31 ∧ Nat.log2 a + n = 31 + Nat.log2 b := by
    unfold kJ6_numberOfLeadingZeros_0f7a4_33_z5 kJ6_numberOfLeadingZeros_0f7a4_33_z6 kJ6_numberOfLeadingZeros_0f7a4_s32
    rw [nI_toInt h]
    by_cases hc : (a : Int) < 65536
    · rw [if_pos hc, if_pos hc]
      exact ⟨a, 31, rfl, rfl, h0, by omega, by omega, by omega⟩
    · rw [if_neg hc, if_neg hc, pk_ushrN (by omega) 16 16 (by decide)]
      obtain ⟨q1, q2, q3⟩ := kz_stage (a := a) (b := a) (n := 31) (k := 16) (by omega) (by omega) ha
      exact ⟨a / 2 ^ 16, 15, rfl, rfl, q3, by omega, by omega, by omega⟩
  obtain ⟨b, n, e1, e2, b0, b1, n1, l1⟩ := s1
  have s2 : ∃ b n, kJ6_numberOfLeadingZeros_0f7a4_48_z11 (nI a) = nI n ∧ kJ6_numberOfLeadingZeros_0f7a4_48_z12 (nI a) = nI b ∧ 0 < b ∧ b < 256 ∧ n ≤ 31 ∧ Nat.log2 a + n = 31 + Nat.log2 b := by
    unfold kJ6_numberOfLeadingZeros_0f7a4_48_z11 kJ6_numberOfLeadingZeros_0f7a4_48_z12 kJ6_numberOfLeadingZeros_0f7a4_s47
    rw [e1, e2, nI_toInt (by omega)]
    by_cases hc : (b : Int) < 256
    · rw [if_pos hc, if_pos hc]
      exact ⟨b, n, rfl, rfl, b0, by omega, n1, l1⟩
    · obtain ⟨q1, q2, q3⟩ := kz_stage (b := b) (n := n) (k := 8) (by omega) l1 ha
      rw [if_neg hc, if_neg hc, pk_ushrN (by omega) 8 8 (by decide), kz_m q1 (by omega) (-8) (by decide)]
      exact ⟨b / 2 ^ 8, n - 8, rfl, rfl, q3, by omega, by omega, q2⟩
  clear e1 e2 b0 b1 n1 l1
  clear b n
  obtain ⟨b, n, e1, e2, b0, b1, n1, l1⟩ := s2
  have s3 : ∃ b n, kJ6_numberOfLeadingZeros_0f7a4_61_z17 (nI a) = nI n ∧ kJ6_numberOfLeadingZeros_0f7a4_61_z18 (nI a) = nI b ∧ 0 < b ∧ b < 16 ∧ n ≤ 31 ∧ Nat.log2 a + n = 31 + Nat.log2 b := by
    unfold kJ6_numberOfLeadingZeros_0f7a4_61_z17 kJ6_numberOfLeadingZeros_0f7a4_61_z18 kJ6_numberOfLeadingZeros_0f7a4_s60
    rw [e1, e2, nI_toInt (by omega)]
    by_cases hc : (b : Int) < 16
    · rw [if_pos hc, if_pos hc]
      exact ⟨b, n, rfl, rfl, b0, by omega, n1, l1⟩
    · obtain ⟨q1, q2, q3⟩ := kz_stage (b := b) (n := n) (k := 4) (by omega) l1 ha
      rw [if_neg hc, if_neg hc, pk_ushrN (by omega) 4 4 (by decide), kz_m q1 (by omega) (-4) (by decide)]
      exact ⟨b / 2 ^ 4, n - 4, rfl, rfl, q3, by omega, by omega, q2⟩
  clear e1 e2 b0 b1 n1 l1
  clear b n
  obtain ⟨b, n, e1, e2, b0, b1, n1, l1⟩ := s3
  have s4 : ∃ b n, kJ6_numberOfLeadingZeros_0f7a4_73_z23 (nI a) = nI n ∧ kJ6_numberOfLeadingZeros_0f7a4_73_z24 (nI a) = nI b ∧ 0 < b ∧ b < 4 ∧ n ≤ 31 ∧ Nat.log2 a + n = 31 + Nat.log2 b := by
    unfold kJ6_numberOfLeadingZeros_0f7a4_73_z23 kJ6_numberOfLeadingZeros_0f7a4_73_z24 kJ6_numberOfLeadingZeros_0f7a4_s72
    rw [e1, e2, nI_toInt (by omega)]
    by_cases hc : (b : Int) < 4
    · rw [if_pos hc, if_pos hc]
      exact ⟨b, n, rfl, rfl, b0, by omega, n1, l1⟩
    · obtain ⟨q1, q2, q3⟩ := kz_stage (b := b) (n := n) (k := 2) (by omega) l1 ha
      rw [if_neg hc, if_neg hc, pk_ushrN (by omega) 2 2 (by decide), kz_m q1 (by omega) (-2) (by decide)]
      exact ⟨b / 2 ^ 2, n - 2, rfl, rfl, q3, by omega, by omega, q2⟩
  clear e1 e2 b0 b1 n1 l1
  clear b n
  obtain ⟨b, n, e1, e2, b0, b1, n1, l1⟩ := s4
  unfold kJ6_numberOfLeadingZeros_0f7a4
  have hl := kz_last b0 b1
  rw [nI_toInt h, if_pos (by omega), e1, e2, pk_ushrN (by omega) 1 1 (by decide), pk_sub (by omega)]
  congr 1
  omega
theorem kz_nlz {m : Nat} (h0 : 0 < m) (h : m < 9223372036854775808) : kJ13_numberOfLeadingZeros_95d88 (lN m) = nI (63 - Nat.log2 m) := by
  unfold kJ13_numberOfLeadingZeros_95d88 kJ13_numberOfLeadingZeros_95d88_25_z10
  have e1 : kJ13_numberOfLeadingZeros_95d88_s5 (lN m) = nI (m / 2 ^ 32) := by
    unfold kJ13_numberOfLeadingZeros_95d88_s5
    rw [show (32 : Int32) = nI 32 from rfl, wb_shr (by omega) (by decide), lN_i]
  rw [e1, nI_toInt (by omega)]
  by_cases hc : ((m / 2 ^ 32 : Nat) : Int) = 0
  · rw [if_pos hc, lN_i]
    by_cases hd : m < 2147483648
    · rw [kz_nlz32 h0 hd, show (32 : Int32) = nI 32 from rfl, nI_add]
      have : Nat.log2 m ≤ 30 := fz_logle (by omega) (by omega)
      congr 1
      omega
    · have hl : Nat.log2 m = 31 := fz_log (by omega) (by omega)
      have hi : (nI m).toInt = (m : Int) - 4294967296 := by
        rw [px_nat, pk_tn (by omega), if_neg (by omega)]
      unfold kJ6_numberOfLeadingZeros_0f7a4 kJ6_numberOfLeadingZeros_0f7a4_14_z29
      rw [hi, if_neg (by omega), if_neg (by omega), hl]
      decide
  · rw [if_neg hc, kz_nlz32 (by omega) (by omega)]
    have hl := fz_logdiv (a := m) (k := 32) (by omega)
    congr 1
    omega
theorem kz_exp {a : Nat} (s : Bool) (h : a < 2147483648) : (kX2_exponent (fz_enc s a)).toInt = fz_pw a := by
  have e1 : kX2_exponent_s7 (fz_enc s a) = nI (a / 2 ^ 23) := by
    unfold kX2_exponent_s7
    rw [fz_encM s h, pk_ushrN (by omega) 23 23 (by decide)]
  unfold kX2_exponent kX2_exponent_23_z4 fz_pw
  rw [e1, nI_toInt (by omega)]
  have c : (150 : Int32).toInt = 150 := by decide
  by_cases hc : a < 8388608
  · rw [if_pos hc, if_pos (by omega)]
    decide
  · rw [if_neg hc, if_neg (by omega), px_isub (by rw [nI_toInt (by omega), c]; omega) (by rw [nI_toInt (by omega), c]; omega), nI_toInt (by omega), c]
theorem kz_hib {a : Nat} (h : a < 2147483648) : nI a &&& 2139095040 = nI (a / 8388608 * 8388608) := by
  apply Int32.toBitVec_inj.mp
  apply BitVec.eq_of_toNat_eq
  rw [Int32.toBitVec_and, BitVec.toNat_and, pk_tn (by omega), pk_tn (by omega)]
  show a &&& 2139095040 = a / 8388608 * 8388608
  rw [show (2139095040 : Nat) = (2 ^ 8 - 1) <<< 23 from rfl, show a / 8388608 * 8388608 = (a >>> 23) <<< 23 by rw [Nat.shiftRight_eq_div_pow, Nat.shiftLeft_eq]]
  apply Nat.eq_of_testBit_eq
  intro i
  rw [Nat.testBit_and, Nat.testBit_shiftLeft, Nat.testBit_shiftLeft, Nat.testBit_shiftRight, Nat.testBit_two_pow_sub_one]
  by_cases hi : 23 ≤ i
  · rw [show 23 + (i - 23) = i by omega]
    by_cases hj : i < 31
    · simp [hi, show i - 23 < 8 by omega]
    · have hp : 2 ^ 31 ≤ 2 ^ i := Nat.pow_le_pow_right (by decide) (by omega)
      rw [Nat.testBit_lt_two_pow (show a < 2 ^ i by omega)]
      simp
  · simp [hi]
theorem kz_sig {a : Nat} (s : Bool) (h : a < 2147483648) : kX2_significand (fz_enc s a) = lN (fz_dg a) := by
  obtain ⟨n, h1, h2, h3, h4⟩ := fz_encN s h
  have e1 : fz_enc s a &&& 2139095040 = nI (a / 8388608 * 8388608) := by
    rw [← kz_hib h, ← fz_encM s h, Int32.and_assoc]
    rfl
  have e2 : fz_enc s a &&& 8388607 = nI (a % 8388608) := by
    rw [h2, pk_andN (by omega) 23 (by decide)]
    congr 1
    omega
  unfold kX2_significand kX2_significand_22_z4 fz_dg
  rw [e1, e2, nI_toInt (by omega)]
  by_cases hc : a < 8388608
  · rw [if_pos hc, if_pos (by omega), nI_l (by omega), Nat.mod_eq_of_lt hc]
  · have e3 : nI (a % 8388608) ||| 8388608 = nI (a % 8388608 + 8388608) := by
      apply Int32.toBitVec_inj.mp
      apply BitVec.eq_of_toNat_eq
      rw [Int32.toBitVec_or, BitVec.toNat_or, pk_tn (by omega), pk_tn (by omega)]
      show a % 8388608 ||| 8388608 = a % 8388608 + 8388608
      rw [Nat.or_comm, Nat.add_comm]
      exact (Nat.two_pow_add_eq_or_of_lt (i := 23) (Nat.mod_lt _ (by decide)) 1).symm
    rw [if_neg hc, if_neg (by omega), e3, nI_l (by omega)]
