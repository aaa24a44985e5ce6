/-! the reference's places, digits, powers; pack -/
theorem kz_place {a : Nat} (z : Bool) : kX8_placeOf (fz_bI z) (lN a) = fz_plc z a := by
  unfold kX8_placeOf kX8_placeOf_13_z4 fz_plc
  cases z
  · rw [if_pos (by decide), if_neg (by decide)]
  · rw [if_neg (by decide), if_pos rfl]
theorem kz_plcNeg {a : Nat} (s : Bool) (h : a < 2147483648) : (0 ≤ (fz_plc s a).toInt ↔ s = false) := by
  rw [fz_plcI s h]
  cases s
  · exact ⟨fun _ => rfl, fun _ => by rw [if_neg (by decide)]; omega⟩
  · exact ⟨fun q => by rw [if_pos rfl] at q; omega, fun q => by cases q⟩
theorem kz_magP {a : Nat} (s : Bool) (h : a < 2147483648) : kX8_magOf (fz_plc s a) = lN a := by
  unfold kX8_magOf kX8_magOf_15_z4
  have hi := fz_plcI s h
  cases s
  · rw [if_pos (by rw [hi]; exact Int.natCast_nonneg a)]
    rfl
  · rw [if_pos rfl] at hi
    rw [if_neg (by omega)]
    apply kz_lNeq
    rw [px_neg1 (by omega), hi]
    omega
theorem kz_digP {a : Nat} (s : Bool) (h : a < 2147483648) : kX8_digits (fz_plc s a) = lN (fz_dg a) := by
  unfold kX8_digits kX8_digits_26_z7 fz_dg
  rw [kz_magP s h, pk_lT (by omega)]
  by_cases hc : a < 8388608
  · rw [if_neg (by omega), if_pos hc]
  · rw [if_pos (by omega), if_neg hc, show (8388608 : Int64) = lN 8388608 from rfl, pk_lRem (by omega) (by omega) (by omega), lN_add]
theorem kz_powP {a : Nat} (s : Bool) (h : a < 2147483648) : (kX8_power (fz_plc s a)).toInt = fz_pw a := by
  have e1 : kX8_power_s9 (fz_plc s a) = nI (a / 8388608) := by
    unfold kX8_power_s9
    rw [kz_magP s h, show (8388608 : Int64) = lN 8388608 from rfl, pk_lDiv (by omega) (by omega) (by omega), lN_i]
  unfold kX8_power kX8_power_25_z7 fz_pw
  rw [e1, nI_toInt (by omega)]
  have c : (150 : Int32).toInt = 150 := by decide
  by_cases hc : a < 8388608
  · rw [if_pos hc, if_pos (by omega)]
    decide
  · rw [if_neg hc, if_neg (by omega), px_isub (by rw [nI_toInt (by omega), c]; omega) (by rw [nI_toInt (by omega), c]; omega), nI_toInt (by omega), c]
theorem kz_plc9 {a : Nat} (s : Bool) (h : a < 2147483648) : ¬ (fz_plc s a).toInt = 9000000000 := by
  rw [fz_plcI s h]
  cases s <;> simp <;> omega
theorem kz_infP {a : Nat} (s : Bool) (h : a < 2147483648) : (kX8_isInfinite (fz_plc s a)).toInt = if a = 2139095040 then 1 else 0 := by
  unfold kX8_isInfinite
  rw [if_neg (kz_plc9 s h), kz_magP s h, pk_lT (by omega)]
  by_cases hc : a = 2139095040
  · rw [if_pos (by omega), if_pos hc]
    decide
  · rw [if_neg (by omega), if_neg hc]
    decide
theorem kz_zerP {a : Nat} (s : Bool) (h : a < 2147483648) : (kX8_isZero (fz_plc s a)).toInt = if a = 0 then 1 else 0 := by
  have hi := fz_plcI s h
  unfold kX8_isZero
  by_cases hc : a = 0
  · subst hc
    cases s <;> decide
  · rw [if_neg hc]
    cases s with
    | false =>
      have hi : (fz_plc false a).toInt = a := hi
      rw [if_neg (by omega), if_neg (by omega)]
      decide
    | true =>
      have hi : (fz_plc true a).toInt = -1 - (a : Int) := hi
      rw [if_neg (by omega), if_neg (by omega)]
      decide
def fz_up (b c : Bool) (m : Nat) : Nat := if b = true ∧ (c = true ∨ m % 2 = 1) then 1 else 0
theorem kz_inc {m : Nat} {ee : Int32} (hm : m < 16777216) (he : -149 ≤ ee.toInt ∧ ee.toInt ≤ 8000) (h : 8388608 ≤ m ∨ ee.toInt = -149) : ∃ M E, (if (lN m + 1 : Int64).toInt = 16777216 then (8388608 : Int64) else lN m + 1) = lN M ∧ (if (lN m + 1 : Int64).toInt = 16777216 then ee + 1 else ee) = E ∧ M < 16777216 ∧ (E.toInt + 149) * 8388608 + M = (ee.toInt + 149) * 8388608 + m + 1 ∧ (8388608 ≤ M ∨ E.toInt = -149) ∧ -149 ≤ E.toInt ∧ E.toInt ≤ 8001 := by
  rw [lN_1, pk_lT (by omega)]
  by_cases hc : ((m + 1 : Nat) : Int) = 16777216
  · rw [if_pos hc, if_pos hc]
    have := sp_inc (x := ee) (by omega)
    exact ⟨8388608, ee + 1, rfl, rfl, by omega, by omega, by omega, by omega, by omega⟩
  · rw [if_neg hc, if_neg hc]
    exact ⟨m + 1, ee, rfl, rfl, by omega, by omega, by omega, by omega, by omega⟩
theorem kz_round {m : Nat} {ee : Int32} (z b c : Bool) (wh : Int64) (pw mo : Int32) (hm : m < 16777216) (he : -149 ≤ ee.toInt ∧ ee.toInt ≤ 8000) (h : 8388608 ≤ m ∨ ee.toInt = -149) : ∃ M E, kX8_pack_l91_166_z29 (fz_bI z) wh pw mo (lN m) ee (fz_bI b) (fz_bI c) = lN M ∧ kX8_pack_l91_166_z30 (fz_bI z) wh pw mo (lN m) ee (fz_bI b) (fz_bI c) = E ∧ M < 16777216 ∧ (E.toInt + 149) * 8388608 + M = (ee.toInt + 149) * 8388608 + m + fz_up b c m ∧ (8388608 ≤ M ∨ E.toInt = -149) ∧ -149 ≤ E.toInt ∧ E.toInt ≤ 8001 := by
  have hodd : (lN m - lN m / 2 * 2 : Int64).toInt = ((m % 2 : Nat) : Int) := by
    rw [show (2 : Int64) = lN 2 from rfl, pk_lRem (by omega) (by omega) (by omega), pk_lT (by omega)]
  obtain ⟨M, E, q1, q2, q3⟩ := kz_inc hm he h
  unfold kX8_pack_l91_166_z29 kX8_pack_l91_166_z30 fz_up
  cases b with
  | false =>
    rw [if_pos (by decide), if_pos (by decide), if_neg (fun q => Bool.noConfusion q.1)]
    exact ⟨m, ee, rfl, rfl, hm, by omega, h, he.1, by omega⟩
  | true =>
    rw [if_neg (by decide), if_neg (by decide)]
    unfold kX8_pack_l91_166_z25 kX8_pack_l91_166_z26
    cases c with
    | true =>
      rw [if_neg (by decide), if_neg (by decide), if_pos ⟨rfl, Or.inl rfl⟩]
      exact ⟨M, E, q1, q2, q3⟩
    | false =>
      rw [if_pos (by decide), if_pos (by decide)]
      unfold kX8_pack_l91_166_z21 kX8_pack_l91_166_z22
      rw [hodd]
      by_cases ho : m % 2 = 1
      · rw [if_pos (by omega), if_pos (by omega), if_pos ⟨rfl, Or.inr ho⟩]
        exact ⟨M, E, q1, q2, q3⟩
      · rw [if_neg (by omega), if_neg (by omega), if_neg (fun q => q.2.elim (fun h => Bool.noConfusion h) ho)]
        exact ⟨m, ee, rfl, rfl, hm, by omega, h, he.1, by omega⟩
set_option maxHeartbeats 4000000 in
theorem kz_tail {m : Nat} {ee : Int32} (z b c : Bool) (wh : Int64) (pw mo : Int32) (hm : m < 16777216) (he : -149 ≤ ee.toInt ∧ ee.toInt ≤ 8000) (h : 8388608 ≤ m ∨ ee.toInt = -149) : (if ((kX8_pack_l91_166_z30 (fz_bI z) wh pw mo (lN m) ee (fz_bI b) (fz_bI c)) + 150 : Int32).toInt ≤ 254 then kX8_placeOf (fz_bI z) (kX8_pack_l91_219_z36 (fz_bI z) wh pw mo (lN m) ee (fz_bI b) (fz_bI c)) else kX8_placeOf (fz_bI z) 2139095040) = fz_plc z (fz_cap ((ee.toInt + 149).toNat * 8388608 + m + fz_up b c m)) := by
  obtain ⟨M, E, q1, q2, q3, q4, q5, q6, q7⟩ := kz_round z b c wh pw mo hm he h
  have c150 : (150 : Int32).toInt = 150 := by decide
  unfold kX8_pack_l91_219_z36
  rw [q1, q2, px_iadd (by omega) (by omega), c150, pk_lT (by omega)]
  have hv : (ee.toInt + 149).toNat * 8388608 + m + fz_up b c m = (E.toInt + 149).toNat * 8388608 + M := by omega
  rw [hv]
  by_cases h1 : E.toInt + 150 ≤ 254
  · rw [if_pos h1, fz_capE (by omega)]
    by_cases h2 : (8388608 : Int) ≤ (M : Int)
    · rw [if_pos h2, ← kz_place]
      refine congrArg (kX8_placeOf (fz_bI z)) ?_
      have l1 : (E.toInt64 + 150 : Int64) = lN (E.toInt + 150).toNat := by
        apply kz_lNeq
        have l150 : (150 : Int64).toInt = 150 := by decide
        rw [px_ladd (by rw [Int32.toInt_toInt64]; omega) (by rw [Int32.toInt_toInt64]; omega), Int32.toInt_toInt64, l150]
        omega
      rw [l1, show (8388608 : Int64) = lN 8388608 from rfl, lN_mul, lN_add, lN_sub (by omega)]
      exact kz_lNc (by omega)
    · have hz : (E.toInt + 149).toNat = 0 := by omega
      rw [if_neg h2, ← kz_place, hz, Nat.zero_mul, Nat.zero_add]
  · rw [if_neg h1, fz_capT (by omega), ← kz_place]
    rfl
set_option maxHeartbeats 4000000 in
theorem kz_l91 (z b c : Bool) (wh : Int64) (pw mo : Int32) : ∀ (fuel m : Nat) (ee : Int32), m < 16777216 → -149 ≤ ee.toInt → ee.toInt ≤ 8000 → (b = true → 8388608 ≤ m ∨ ee.toInt = -149) → ee.toInt + 149 < fuel → kX8_pack_l91 fuel (fz_bI z) wh pw mo (lN m) ee (fz_bI b) (fz_bI c) = fz_plc z (if b = true then fz_cap ((ee.toInt + 149).toNat * 8388608 + m + fz_up b c m) else fz m ee.toInt false) := by
  intro fuel
  induction fuel with
  | zero => intro m ee _ _ _ _ h; exact absurd h (by omega)
  | succ fuel ih =>
    intro m ee hm h1 h2 h3 hf
    have fin : (8388608 ≤ m ∨ ee.toInt = -149) → fz_plc z (fz_cap ((ee.toInt + 149).toNat * 8388608 + m + fz_up b c m)) = fz_plc z (if b = true then fz_cap ((ee.toInt + 149).toNat * 8388608 + m + fz_up b c m) else fz m ee.toInt false) := by
      intro hq
      cases b with
      | true => rw [if_pos rfl]
      | false =>
        rw [if_neg (by decide), fz_flat false hm h1 hq, show fz_up false c m = 0 from if_neg (fun q => Bool.noConfusion q.1), Nat.add_zero]
    rw [kX8_pack_l91_S, pk_lT (by omega)]
    by_cases c1 : (8388608 : Int) ≤ (m : Int)
    · rw [if_pos c1]
      exact (kz_tail z b c wh pw mo hm ⟨h1, h2⟩ (by omega)).trans (fin (by omega))
    · rw [if_neg c1]
      by_cases c2 : ee.toInt ≤ -149
      · rw [if_pos c2]
        exact (kz_tail z b c wh pw mo hm ⟨h1, h2⟩ (by omega)).trans (fin (by omega))
      · rw [if_neg c2]
        have hb : b = false := by
          cases b with
          | false => rfl
          | true => exact absurd (h3 rfl) (by omega)
        have cm : (-1 : Int32).toInt = -1 := by decide
        have he : (ee + (-1)).toInt = ee.toInt - 1 := by
          rw [px_iadd (by omega) (by omega), cm]
          omega
        rw [show (2 : Int64) = lN 2 from rfl, lN_mul, ih (m * 2) (ee + (-1)) (by omega) (by omega) (by omega) (fun q => by rw [hb] at q; cases q) (by omega), hb, if_neg (by decide), if_neg (by decide), he, fz_dbl false false (by omega) (by omega)]
def fz_hb (M j : Nat) : Bool := decide (¬ j = 0 ∧ M / 2 ^ (j - 1) % 2 = 1)
def fz_rb (M j : Nat) (st : Bool) : Bool := decide (st = true ∨ ¬ M % 2 ^ (j - 1) = 0)
theorem kz_or (b c : Bool) : (if (fz_bI c).toInt = 0 then (if (fz_bI b).toInt = 0 then (0 : Int32) else 1) else 1) = fz_bI (c || b) := by cases b <;> cases c <;> decide
theorem kz_rbS (M j : Nat) (st : Bool) : (fz_rb M j st || fz_hb M j) = fz_rb M (j + 1) st := by
  unfold fz_rb fz_hb
  rw [Nat.add_sub_cancel]
  cases j with
  | zero =>
    have h1 : M % 2 ^ (0 - 1) = 0 := Nat.mod_one M
    rw [h1]
    cases st <;> simp
  | succ i =>
    rw [Nat.add_sub_cancel]
    have hm : M % 2 ^ (i + 1) = M % 2 ^ i + 2 ^ i * (M / 2 ^ i % 2) := Nat.mod_pow_succ
    have hp := Nat.two_pow_pos i
    rcases (show M / 2 ^ i % 2 = 0 ∨ M / 2 ^ i % 2 = 1 by omega) with hb | hb
    · rw [hm, hb, Nat.mul_zero, Nat.add_zero]
      simp
    · rw [hm, hb, Nat.mul_one]
      have : ¬ M % 2 ^ i + 2 ^ i = 0 := by omega
      simp [this]
set_option maxHeartbeats 4000000 in
theorem kz_l25 (z st : Bool) (wh : Int64) (pw mo : Int32) {M : Nat} {e0 : Int} (hM : M < 9223372036854775808) (h0 : M ≠ 0) (he0 : -3000 ≤ e0 ∧ e0 ≤ 3000) : ∀ (fuel j : Nat) (ee : Int32), ee.toInt = e0 + j → j ≤ 2900 → (¬ j = 0 → 16777216 ≤ M / 2 ^ (j - 1) ∨ e0 + j ≤ -149) → 2900 - (j : Int) < fuel → kX8_pack_l25 fuel (fz_bI z) wh pw mo (lN (M / 2 ^ j)) ee (fz_bI (fz_hb M j)) (fz_bI (fz_rb M j st)) = fz_plc z (fz M e0 st) := by
  intro fuel
  induction fuel with
  | zero => intro j ee _ _ _ h; exact absurd h (by omega)
  | succ fuel ih =>
    intro j ee he hj hc hf
    have hle : M / 2 ^ j ≤ M := Nat.div_le_self _ _
    have hdiv : M / 2 ^ j / 2 = M / 2 ^ (j + 1) := by rw [Nat.div_div_eq_div_mul, Nat.pow_succ]
    have step : (16777216 ≤ M / 2 ^ j ∨ ee.toInt < -149) → kX8_pack_l25 fuel (fz_bI z) wh pw mo (lN (M / 2 ^ j) / 2) (ee + 1) (kX8_pack_l25_75_z15 (fz_bI z) wh pw mo (lN (M / 2 ^ j)) ee (fz_bI (fz_hb M j)) (fz_bI (fz_rb M j st))) (kX8_pack_l25_57_z10 (fz_bI z) wh pw mo (lN (M / 2 ^ j)) ee (fz_bI (fz_hb M j)) (fz_bI (fz_rb M j st))) = fz_plc z (fz M e0 st) := by
      intro hq
      have hj2 : j < 2890 := by
        rcases hq with hq | hq
        · have : j < 63 := by
            apply Nat.lt_of_not_le
            intro h63
            have a1 : 2 ^ 63 ≤ 2 ^ j := Nat.pow_le_pow_right (by decide) h63
            have a2 : M / 2 ^ j = 0 := Nat.div_eq_of_lt (by omega)
            omega
          omega
        · omega
      have a1 : kX8_pack_l25_75_z15 (fz_bI z) wh pw mo (lN (M / 2 ^ j)) ee (fz_bI (fz_hb M j)) (fz_bI (fz_rb M j st)) = fz_bI (fz_hb M (j + 1)) := by
        unfold kX8_pack_l25_75_z15 fz_hb
        rw [show (2 : Int64) = lN 2 from rfl, pk_lRem (by omega) (by omega) (by omega), pk_lT (by omega), Nat.add_sub_cancel]
        by_cases ho : M / 2 ^ j % 2 = 1
        · rw [if_pos (by omega), decide_eq_true ⟨by omega, ho⟩]
          rfl
        · rw [if_neg (by omega), decide_eq_false (fun q => ho q.2)]
          rfl
      have a2 : kX8_pack_l25_57_z10 (fz_bI z) wh pw mo (lN (M / 2 ^ j)) ee (fz_bI (fz_hb M j)) (fz_bI (fz_rb M j st)) = fz_bI (fz_rb M (j + 1) st) := by
        rw [← kz_rbS, ← kz_or]
        rfl
      have a3 : lN (M / 2 ^ j) / 2 = lN (M / 2 ^ (j + 1)) := by
        rw [show (2 : Int64) = lN 2 from rfl, pk_lDiv (by omega) (by omega) (by omega), hdiv]
      have a4 : (ee + 1).toInt = ee.toInt + 1 := sp_inc (by omega)
      rw [a1, a2, a3]
      exact ih (j + 1) (ee + 1) (by omega) (by omega) (fun _ => by rw [Nat.add_sub_cancel]; omega) (by omega)
    rw [kX8_pack_l25_S, pk_lT (by omega)]
    by_cases c1 : (16777216 : Int) ≤ ((M / 2 ^ j : Nat) : Int)
    · rw [if_pos c1]
      exact step (by omega)
    · rw [if_neg c1]
      by_cases c2 : (-149 : Int) ≤ ee.toInt
      · rw [if_pos c2]
        cases j with
        | zero =>
          have hb : fz_hb M 0 = false := decide_eq_false (fun q => q.1 rfl)
          have hd : M / 2 ^ 0 = M := Nat.div_one M
          rw [hd] at c1
          rw [hb, hd, kz_l91 z false (fz_rb M 0 st) wh pw mo 2147484000 M ee (by omega) c2 (by omega) (fun q => by cases q) (by omega), if_neg (by decide), show ee.toInt = e0 by omega, fz_st false st (by omega) (by omega)]
        | succ i =>
          have hc2 := hc (by omega)
          rw [Nat.add_sub_cancel] at hc2
          have hh : M / 2 ^ (i + 1) = M / 2 ^ i / 2 := by rw [Nat.div_div_eq_div_mul, Nat.pow_succ]
          have hq : 8388608 ≤ M / 2 ^ (i + 1) ∨ ee.toInt = -149 := by omega
          have hlt : M < 2 ^ (i + 1 + 24) := by
            have := (Nat.div_lt_iff_lt_mul (Nat.two_pow_pos (i + 1))).mp (show M / 2 ^ (i + 1) < 16777216 by omega)
            rw [Nat.add_comm (i + 1) 24, Nat.pow_add]
            exact this
          have hge : (2 ^ (i + 1 + 23) ≤ M ∧ -149 ≤ ee.toInt) ∨ ee.toInt = -149 := by
            rcases hq with hq | hq
            · refine Or.inl ⟨?_, c2⟩
              have := (Nat.le_div_iff_mul_le (Nat.two_pow_pos (i + 1))).mp hq
              rw [Nat.add_comm (i + 1) 23, Nat.pow_add]
              exact this
            · exact Or.inr hq
          have hrn : (if fz_hb M (i + 1) = true then M / 2 ^ (i + 1) + fz_up true (fz_rb M (i + 1) st) (M / 2 ^ (i + 1)) else M / 2 ^ (i + 1)) = fz_rn M (i + 1) st := by
            unfold fz_rn fz_up fz_hb fz_rb
            rw [Nat.add_sub_cancel]
            by_cases t1 : M / 2 ^ i % 2 = 1
            · have g0 : decide (¬ i + 1 = 0 ∧ M / 2 ^ i % 2 = 1) = true := decide_eq_true ⟨by omega, t1⟩
              rw [if_pos g0]
              by_cases t2 : st = true ∨ ¬ M % 2 ^ i = 0 ∨ M / 2 ^ (i + 1) % 2 = 1
              · have g : true = true ∧ (decide (st = true ∨ ¬ M % 2 ^ i = 0) = true ∨ M / 2 ^ (i + 1) % 2 = 1) := ⟨rfl, t2.elim (fun t => Or.inl (decide_eq_true (Or.inl t))) (fun t => t.elim (fun t => Or.inl (decide_eq_true (Or.inr t))) Or.inr)⟩
                have g2 : M / 2 ^ i % 2 = 1 ∧ (st = true ∨ ¬ M % 2 ^ i = 0 ∨ M / 2 ^ (i + 1) % 2 = 1) := ⟨t1, t2⟩
                rw [if_pos g, if_pos g2]
              · have g : ¬ (true = true ∧ (decide (st = true ∨ ¬ M % 2 ^ i = 0) = true ∨ M / 2 ^ (i + 1) % 2 = 1)) := fun q => t2 (q.2.elim (fun h => (of_decide_eq_true h).elim Or.inl (fun h => Or.inr (Or.inl h))) (fun h => Or.inr (Or.inr h)))
                have g2 : ¬ (M / 2 ^ i % 2 = 1 ∧ (st = true ∨ ¬ M % 2 ^ i = 0 ∨ M / 2 ^ (i + 1) % 2 = 1)) := fun q => t2 q.2
                rw [if_neg g, if_neg g2, Nat.add_zero]
            · have g0 : ¬ decide (¬ i + 1 = 0 ∧ M / 2 ^ i % 2 = 1) = true := fun q => t1 (of_decide_eq_true q).2
              have g2 : ¬ (M / 2 ^ i % 2 = 1 ∧ (st = true ∨ ¬ M % 2 ^ i = 0 ∨ M / 2 ^ (i + 1) % 2 = 1)) := fun q => t1 q.1
              rw [if_neg g0, if_neg g2]
          rw [kz_l91 z (fz_hb M (i + 1)) (fz_rb M (i + 1) st) wh pw mo 2147484000 (M / 2 ^ (i + 1)) ee (by omega) c2 (by omega) (fun _ => hq) (by omega), fz_R (n := i + 1) (u := ee.toInt) st (by omega) (by omega) h0 hlt hge, ← hrn]
          refine congrArg (fz_plc z) ?_
          by_cases t : fz_hb M (i + 1) = true
          · rw [if_pos t, if_pos t, t, Nat.add_assoc]
          · rw [if_neg t, if_neg t, fz_flat false (by omega) c2 hq]
      · rw [if_neg c2]
        exact step (by omega)
theorem kz_pack {m : Nat} {ee : Int32} (z st : Bool) (hm : m < 9223372036854775808) (he : -3000 ≤ ee.toInt ∧ ee.toInt ≤ 3000) : kX8_pack (fz_bI z) (lN m) ee (fz_bI st) = fz_plc z (fz m ee.toInt st) := by
  unfold kX8_pack
  rw [pk_lT (by omega)]
  by_cases h0 : m = 0
  · subst h0
    rw [if_pos (by decide), fz_zero, ← kz_place]
    rfl
  · rw [if_neg (by omega)]
    have h := kz_l25 z st (lN m) ee (fz_bI st) hm h0 he 39614081257132168805361909760 0 ee (by omega) (by omega) (fun q => absurd rfl q) (by omega)
    have hb : fz_hb m 0 = false := decide_eq_false (fun q => q.1 rfl)
    have hr : fz_rb m 0 st = st := by
      unfold fz_rb
      rw [show m % 2 ^ (0 - 1) = 0 from Nat.mod_one m]
      cases st <;> simp
    rw [hb, hr, show m / 2 ^ 0 = m from Nat.div_one m] at h
    exact h
