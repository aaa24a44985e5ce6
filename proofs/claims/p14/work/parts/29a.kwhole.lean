/-! whole ones -/
theorem kz_sl : ∀ n, n < 32 → ((nI n &&& 31).toBitVec.smod 32).toNat = n := by decide +kernel
theorem kz_unit {a : Nat} (h1 : 1065353216 ≤ a) (h2 : a < 1258291200) : kX0_unitOf (nI a) = nI (2 ^ (150 - a / 8388608)) := by
  unfold kX0_unitOf
  have hp : 2 ^ (150 - a / 8388608) ≤ 2 ^ 23 := Nat.pow_le_pow_right (by decide) (by omega)
  rw [pk_ushrN (by omega) 23 23 (by decide), show (150 : Int32) = nI 150 from rfl, pk_sub (by omega), show (1 : Int32) = nI 1 from rfl, show a / 2 ^ 23 = a / 8388608 from rfl, pk_shlN _ (150 - a / 8388608) (kz_sl _ (by omega)) (by omega), Nat.one_mul]
theorem kz_maskN {a d : Nat} (ha : a < 4294967296) (hd : d ≤ 31) : a &&& (4294967296 - 2 ^ d) = a / 2 ^ d * 2 ^ d := by
  have hp := Nat.two_pow_pos d
  have hp2 : 2 ^ d ≤ 2 ^ 31 := Nat.pow_le_pow_right (by decide) hd
  rw [show 4294967296 - 2 ^ d = 2 ^ 32 - (2 ^ d - 1 + 1) by omega, show a / 2 ^ d * 2 ^ d = (a >>> d) <<< d by rw [Nat.shiftRight_eq_div_pow, Nat.shiftLeft_eq]]
  apply Nat.eq_of_testBit_eq
  intro i
  rw [Nat.testBit_and, Nat.testBit_two_pow_sub_succ (by omega), Nat.testBit_two_pow_sub_one, Nat.testBit_shiftLeft, Nat.testBit_shiftRight]
  by_cases hi : i < 32
  · by_cases hj : d ≤ i
    · rw [show d + (i - d) = i by omega]
      simp [hi, hj, show ¬ i < d by omega]
    · simp [hi, hj, show i < d by omega]
  · have h3 : 2 ^ 32 ≤ 2 ^ i := Nat.pow_le_pow_right (by decide) (by omega)
    by_cases hj : d ≤ i
    · rw [show d + (i - d) = i by omega, Nat.testBit_lt_two_pow (show a < 2 ^ i by omega)]
      simp
    · omega
theorem kz_mask {a d : Nat} (ha : a < 2147483648) (hd : d ≤ 31) : nI a &&& -(nI (2 ^ d)) = nI (a / 2 ^ d * 2 ^ d) := by
  have hp := Nat.two_pow_pos d
  have hp2 : 2 ^ d ≤ 2 ^ 31 := Nat.pow_le_pow_right (by decide) hd
  have hle : a / 2 ^ d * 2 ^ d ≤ a := Nat.div_mul_le_self _ _
  apply Int32.toBitVec_inj.mp
  apply BitVec.eq_of_toNat_eq
  rw [Int32.toBitVec_and, BitVec.toNat_and, Int32.toBitVec_neg, BitVec.toNat_neg, pk_tn (by omega), pk_tn (by omega), pk_tn (by omega), Nat.mod_eq_of_lt (by omega)]
  exact kz_maskN (by omega) hd
def fz_cut (a : Nat) : Nat := if a < 1065353216 then 0 else if a < 1258291200 then a / 2 ^ (150 - a / 8388608) * 2 ^ (150 - a / 8388608) else a
def fz_nxt (a : Nat) : Nat := if a < 1065353216 then 1065353216 else a / 2 ^ (150 - a / 8388608) * 2 ^ (150 - a / 8388608) + 2 ^ (150 - a / 8388608)
theorem kz_cut {a : Nat} (h : a < 2147483648) : kX0_cut (nI a) = nI (fz_cut a) := by
  unfold kX0_cut kX0_cut_25_z8 fz_cut
  rw [nI_toInt h]
  by_cases h1 : a < 1065353216
  · rw [if_neg (by omega), if_pos h1]
    rfl
  · rw [if_pos (by omega), if_neg h1]
    by_cases h2 : a < 1258291200
    · rw [if_pos (by omega), if_pos h2, kz_unit (by omega) h2, kz_mask h (by omega)]
    · rw [if_neg (by omega), if_neg h2]
theorem kz_ceil {a d : Nat} : (a + 2 ^ d - 1) / 2 ^ d * 2 ^ d = if a % 2 ^ d = 0 then a / 2 ^ d * 2 ^ d else a / 2 ^ d * 2 ^ d + 2 ^ d := by
  have hp := Nat.two_pow_pos d
  have hdm := Nat.div_add_mod a (2 ^ d)
  have hml := Nat.mod_lt a hp
  have hc : 2 ^ d * (a / 2 ^ d) = a / 2 ^ d * 2 ^ d := Nat.mul_comm _ _
  by_cases hz : a % 2 ^ d = 0
  · rw [if_pos hz]
    have e1 : a + 2 ^ d - 1 = a / 2 ^ d * 2 ^ d + (2 ^ d - 1) := by omega
    rw [e1, (fz_dv (by omega)).1]
  · rw [if_neg hz]
    have e1 : a + 2 ^ d - 1 = (a / 2 ^ d + 1) * 2 ^ d + (a % 2 ^ d - 1) := by
      rw [Nat.add_mul, Nat.one_mul]
      omega
    rw [e1, (fz_dv (by omega)).1, Nat.add_mul, Nat.one_mul]
def fz_grw (a : Nat) : Nat := if a = 0 then 0 else if a < 1258291200 then (if a < 1065353216 then 1065353216 else if a % 2 ^ (150 - a / 8388608) = 0 then a / 2 ^ (150 - a / 8388608) * 2 ^ (150 - a / 8388608) else fz_nxt a) else a
theorem kz_grw {a : Nat} (h : a < 2147483648) : kX0_grown (nI a) = nI (fz_grw a) := by
  unfold kX0_grown fz_grw
  rw [nI_toInt h]
  by_cases h0 : a = 0
  · rw [if_pos (by omega), if_pos h0, h0]
  · rw [if_neg (by omega), if_neg h0]
    by_cases h2 : a < 1258291200
    · rw [if_pos (by omega), if_pos h2]
      by_cases h1 : a < 1065353216
      · rw [if_neg (by omega), if_pos h1]
        rfl
      · have hp := Nat.two_pow_pos (150 - a / 8388608)
        have hp2 : 2 ^ (150 - a / 8388608) ≤ 2 ^ 23 := Nat.pow_le_pow_right (by decide) (by omega)
        rw [if_pos (by omega), if_neg h1, kz_unit (by omega) h2, nI_add, show (1 : Int32) = nI 1 from rfl, pk_sub (by omega), kz_mask (by omega) (by omega), kz_ceil]
        unfold fz_nxt
        rw [if_neg h1]
    · rw [if_neg (by omega), if_neg h2]
def fz_nea (a : Nat) : Nat := if a < 1258291200 then (if a < 1065353216 then (if 1056964608 < a then 1065353216 else 0) else if a / 2 ^ (150 - a / 8388608 - 1) % 2 = 1 ∧ (¬ a % 2 ^ (150 - a / 8388608 - 1) = 0 ∨ a / 2 ^ (150 - a / 8388608) % 2 = 1) then fz_nxt a else fz_cut a) else a
set_option maxHeartbeats 4000000 in
theorem kz_nea {a : Nat} (h : a < 2147483648) : kX0_nearestWhole (nI a) = nI (fz_nea a) := by
  unfold kX0_nearestWhole fz_nea
  rw [nI_toInt h]
  by_cases h2 : a < 1258291200
  · rw [if_pos (by omega), if_pos h2]
    by_cases h1 : a < 1065353216
    · rw [if_neg (by omega), if_pos h1]
      unfold kX0_nearestWhole_26_z29
      rw [nI_toInt h]
      by_cases h3 : 1056964608 < a
      · rw [if_pos (by omega), if_pos h3]
        rfl
      · rw [if_neg (by omega), if_neg h3]
        rfl
    · rw [if_pos (by omega), if_neg h1]
      have hu := kz_unit (by omega) h2
      unfold fz_nxt fz_cut
      rw [if_neg h1, if_neg h1, if_pos h2]
      obtain ⟨i, hi⟩ : ∃ i, 150 - a / 8388608 = i + 1 := ⟨150 - a / 8388608 - 1, by omega⟩
      rw [hi] at hu ⊢
      rw [Nat.add_sub_cancel]
      have hi2 : i ≤ 22 := by omega
      have hp := Nat.two_pow_pos i
      have p1 : 2 ^ (i + 1) = 2 * 2 ^ i := Nat.pow_succ'
      have p2 : 2 ^ i ≤ 2 ^ 22 := Nat.pow_le_pow_right (by decide) hi2
      have hdm := Nat.div_add_mod a (2 ^ (i + 1))
      have hml := Nat.mod_lt a (Nat.two_pow_pos (i + 1))
      have hc : 2 ^ (i + 1) * (a / 2 ^ (i + 1)) = a / 2 ^ (i + 1) * 2 ^ (i + 1) := Nat.mul_comm _ _
      have hw : nI a &&& -(kX0_unitOf (nI a)) = nI (a / 2 ^ (i + 1) * 2 ^ (i + 1)) := by rw [hu, kz_mask h (by omega)]
      have e40 : kX0_nearestWhole_s40 (nI a) = nI (a % 2 ^ (i + 1)) := by
        unfold kX0_nearestWhole_s40
        rw [hw, pk_sub (by omega)]
        exact kz_nIc (by omega)
      have e44 : kX0_nearestWhole_s44 (nI a) = nI (2 ^ i) := by
        unfold kX0_nearestWhole_s44
        rw [hu, pk_shrN (by omega) (1 &&& 31) 1 (by decide)]
        apply kz_nIc
        rw [p1, Nat.pow_one, Nat.mul_div_cancel_left _ (by decide)]
      have ebit : ((nI a &&& -(kX0_unitOf (nI a))) &&& kX0_unitOf (nI a) : Int32) = nI (a / 2 ^ (i + 1) % 2 * 2 ^ (i + 1)) := by
        rw [hw, hu]
        apply Int32.toBitVec_inj.mp
        apply BitVec.eq_of_toNat_eq
        have hb1 : a / 2 ^ (i + 1) % 2 * 2 ^ (i + 1) ≤ 1 * 2 ^ (i + 1) := Nat.mul_le_mul_right _ (by omega)
        rw [Int32.toBitVec_and, BitVec.toNat_and, pk_tn (by omega), pk_tn (by omega), pk_tn (by omega)]
        apply Nat.eq_of_testBit_eq
        intro j
        rw [Nat.testBit_and, Nat.testBit_two_pow, Nat.testBit_mul_two_pow, Nat.testBit_mul_two_pow]
        by_cases hj : i + 1 = j
        · subst hj
          rw [Nat.sub_self, Nat.testBit_zero, Nat.testBit_zero, Nat.mod_mod]
          simp
        · by_cases hj2 : i + 1 ≤ j
          · obtain ⟨k, hk⟩ : ∃ k, j - (i + 1) = k + 1 := ⟨j - (i + 1) - 1, by omega⟩
            rw [hk, Nat.testBit_lt_two_pow (show a / 2 ^ (i + 1) % 2 < 2 ^ (k + 1) by have := Nat.two_pow_pos k; rw [Nat.pow_succ]; omega)]
            simp [hj]
          · simp [hj, hj2]
      have e13 : (kX0_nearestWhole_69_z13 (nI a)).toInt = if a / 2 ^ (i + 1) % 2 = 1 then 1 else 0 := by
        unfold kX0_nearestWhole_69_z13
        rw [ebit]
        rcases (show a / 2 ^ (i + 1) % 2 = 0 ∨ a / 2 ^ (i + 1) % 2 = 1 by omega) with hb | hb
        · rw [hb, Nat.zero_mul, if_pos (by decide), if_neg (by decide)]
          decide
        · rw [hb, Nat.one_mul, nI_toInt (by omega), if_neg (by omega), if_pos rfl]
          decide
      have hm : a % 2 ^ (i + 1) = a % 2 ^ i + 2 ^ i * (a / 2 ^ i % 2) := Nat.mod_pow_succ
      have hr : a % 2 ^ i < 2 ^ i := Nat.mod_lt _ hp
      have e19 : (kX0_nearestWhole_69_z19 (nI a)).toInt = if a / 2 ^ i % 2 = 1 ∧ (¬ a % 2 ^ i = 0 ∨ a / 2 ^ (i + 1) % 2 = 1) then 1 else 0 := by
        unfold kX0_nearestWhole_69_z19 kX0_nearestWhole_69_z16
        rw [e40, e44, nI_toInt (by omega), nI_toInt (by omega)]
        rcases (show a / 2 ^ i % 2 = 0 ∨ a / 2 ^ i % 2 = 1 by omega) with hb | hb
        · rw [hb, Nat.mul_zero, Nat.add_zero] at hm
          rw [if_neg (by omega), if_neg (by omega), if_neg (by omega)]
          decide
        · rw [hb, Nat.mul_one] at hm
          by_cases hz : a % 2 ^ i = 0
          · rw [if_neg (by omega), if_pos (by omega), e13]
            by_cases ho : a / 2 ^ (i + 1) % 2 = 1
            · rw [if_pos ho, if_pos ⟨hb, Or.inr ho⟩]
            · rw [if_neg ho, if_neg (fun q => q.2.elim (fun h => h hz) ho)]
          · rw [if_pos (by omega), if_pos ⟨hb, Or.inl hz⟩]
            decide
      unfold kX0_nearestWhole_83_z24
      rw [e19, hw, hu, nI_add]
      by_cases hq : a / 2 ^ i % 2 = 1 ∧ (¬ a % 2 ^ i = 0 ∨ a / 2 ^ (i + 1) % 2 = 1)
      · rw [if_pos hq, if_neg (by decide), if_pos hq]
      · rw [if_neg hq, if_pos rfl, if_neg hq]
  · rw [if_neg (by omega), if_neg h2]
/-! the reference's -/
theorem fz_E {a : Nat} (h1 : 1065353216 ≤ a) (h2 : a < 1258291200) : ∃ d : Nat, 150 - a / 8388608 = d ∧ 1 ≤ d ∧ d ≤ 23 ∧ fz_pw a = -(d : Int) ∧ (149 - d) * 8388608 + fz_dg a = a ∧ 8388608 ≤ fz_dg a ∧ fz_dg a < 16777216 := by
  refine ⟨150 - a / 8388608, rfl, by omega, by omega, ?_, ?_, ?_, (fz_dgB a).1⟩
  · unfold fz_pw
    rw [if_neg (by omega)]
    omega
  · unfold fz_dg
    rw [if_neg (by omega)]
    omega
  · exact (fz_dgB a).2.1 (by omega)
theorem fz_divE {a d : Nat} (hd : d ≤ 23) (hd2 : d ≤ 149) (h : (149 - d) * 8388608 + fz_dg a = a) : a / 2 ^ d * 2 ^ d = (149 - d) * 8388608 + fz_dg a / 2 ^ d * 2 ^ d ∧ a % 2 ^ d = fz_dg a % 2 ^ d ∧ a / 2 ^ d = (149 - d) * 2 ^ (23 - d) + fz_dg a / 2 ^ d := by
  have hp := Nat.two_pow_pos d
  have e23 : 8388608 = 2 ^ (23 - d) * 2 ^ d := by rw [← Nat.pow_add, show 23 - d + d = 23 by omega]
  have e1 : a = fz_dg a + (149 - d) * 2 ^ (23 - d) * 2 ^ d := by
    rw [Nat.mul_assoc, ← e23]
    omega
  have d1 : a / 2 ^ d = fz_dg a / 2 ^ d + (149 - d) * 2 ^ (23 - d) := by
    rw [e1, Nat.add_mul_div_right _ _ hp, ← e1]
  have d2 : a % 2 ^ d = fz_dg a % 2 ^ d := by
    rw [e1, Nat.add_mul_mod_self_right, ← e1]
  refine ⟨?_, d2, by omega⟩
  rw [d1, Nat.add_mul, Nat.mul_assoc, ← e23, Nat.add_comm]
theorem fz_low {a : Nat} (h : a < 1065353216) : ∃ d : Nat, fz_pw a = -(d : Int) ∧ 24 ≤ d ∧ d ≤ 149 ∧ fz_dg a / 2 ^ d = 0 ∧ fz_dg a % 2 ^ d = fz_dg a := by
  have hb := fz_dgB a
  obtain ⟨d, hd⟩ : ∃ d : Nat, fz_pw a = -(d : Int) := ⟨(-(fz_pw a)).toNat, by unfold fz_pw; split <;> omega⟩
  have h24 : 24 ≤ d ∧ d ≤ 149 := by
    unfold fz_pw at hd
    split at hd <;> omega
  have hp : 2 ^ 24 ≤ 2 ^ d := Nat.pow_le_pow_right (by decide) h24.1
  exact ⟨d, hd, h24.1, h24.2, Nat.div_eq_of_lt (by omega), Nat.mod_eq_of_lt (by omega)⟩
theorem fz_wcut {a : Nat} (h : a < 1258291200) {d : Nat} (hd : fz_pw a = -(d : Int)) : fz (fz_dg a / 2 ^ d) 0 false = fz_cut a ∧ fz (fz_dg a / 2 ^ d + 1) 0 false = fz_nxt a := by
  by_cases h1 : a < 1065353216
  · obtain ⟨d', q1, q2, q3, q4, q5⟩ := fz_low h1
    have : d = d' := by omega
    subst this
    unfold fz_cut fz_nxt
    rw [q4, if_pos h1, if_pos h1]
    exact ⟨fz_zero _ _, by decide +kernel⟩
  · obtain ⟨d', q0, q1, q2, q3, q4, q5, q6⟩ := fz_E (by omega) h
    have : d = d' := by omega
    subst this
    obtain ⟨r1, r2, r3⟩ := fz_divE (a := a) q2 (by omega) q4
    have hp := Nat.two_pow_pos d
    have hdm := Nat.div_add_mod (fz_dg a) (2 ^ d)
    have hml := Nat.mod_lt (fz_dg a) hp
    have hc : 2 ^ d * (fz_dg a / 2 ^ d) = fz_dg a / 2 ^ d * 2 ^ d := Nat.mul_comm _ _
    have e23 : 2 ^ (23 - d) * 2 ^ d = 8388608 := by rw [← Nat.pow_add, show 23 - d + d = 23 by omega]
    have e24 : 2 ^ (24 - d) * 2 ^ d = 16777216 := by rw [← Nat.pow_add, show 24 - d + d = 24 by omega]
    have m1 : 2 ^ (23 - d) ≤ fz_dg a / 2 ^ d := by
      rw [Nat.le_div_iff_mul_le hp]
      omega
    have m2 : fz_dg a / 2 ^ d < 2 ^ (24 - d) := by
      rw [Nat.div_lt_iff_lt_mul hp]
      omega
    have m3 : 2 ^ (23 - d) * 2 ^ d ≤ fz_dg a / 2 ^ d * 2 ^ d := Nat.mul_le_mul_right _ m1
    have m4 : (fz_dg a / 2 ^ d + 1) * 2 ^ d ≤ 2 ^ (24 - d) * 2 ^ d := Nat.mul_le_mul_right _ m2
    have m5 : (fz_dg a / 2 ^ d + 1) * 2 ^ d = fz_dg a / 2 ^ d * 2 ^ d + 2 ^ d := by rw [Nat.add_mul, Nat.one_mul]
    unfold fz_cut fz_nxt
    rw [if_neg h1, if_neg h1, if_pos h, q0, r1]
    refine ⟨fz_whole false q1 q2 (by omega) (by omega), ?_⟩
    rw [fz_whole false q1 q2 (by omega) (by omega), m5]
    omega
