theorem kz_lNc {a b : Nat} (h : a = b) : lN a = lN b := by rw [h]
theorem kz_nIc {a b : Nat} (h : a = b) : nI a = nI b := by rw [h]
theorem kz_kmax (x y : Int32) : (kmax x y).toInt = if x.toInt < y.toInt then y.toInt else x.toInt := by
  unfold kmax
  by_cases h : x < y
  · rw [if_pos h, if_pos (Int32.lt_iff_toInt_lt.mp h)]
  · rw [if_neg h, if_neg (fun q => h (Int32.lt_iff_toInt_lt.mpr q))]
theorem kz_kmin (x y : Int32) : (kmin x y).toInt = if y.toInt < x.toInt then y.toInt else x.toInt := by
  unfold kmin
  by_cases h : y < x
  · rw [if_pos h, if_pos (Int32.lt_iff_toInt_lt.mp h)]
  · rw [if_neg h, if_neg (fun q => h (Int32.lt_iff_toInt_lt.mpr q))]
theorem kz_neg {x : Int32} (h : -2147483648 < x.toInt) : (-x).toInt = -x.toInt := by
  have := px_rng x
  rw [Int32.toInt_neg, Int.bmod_eq_of_le] <;> omega
theorem kz_negl {x : Int64} (h : -9223372036854775808 < x.toInt) : (-x).toInt = -x.toInt := by
  have := px_lrng x
  rw [Int64.toInt_neg, Int.bmod_eq_of_le] <;> omega
theorem kz_nIof {x : Int32} (h : 0 ≤ x.toInt) : x = nI x.toInt.toNat := by
  have := px_rng x
  apply Int32.toInt_inj.mp
  rw [nI_toInt (by omega)]
  omega
theorem kz_nIeq {x : Int32} {n : Nat} (h : x.toInt = n) : x = nI n := by
  have := px_rng x
  apply Int32.toInt_inj.mp
  rw [nI_toInt (by omega), h]
theorem kz_lNeq {x : Int64} {n : Nat} (h : x.toInt = n) : x = lN n := by
  have := px_lrng x
  apply Int64.toInt_inj.mp
  rw [pk_lT (by omega), h]
theorem fz_uB (m : Nat) (e : Int) : -149 ≤ fz_u m e ∧ e + (Nat.log2 m : Int) - 23 ≤ fz_u m e ∧ (fz_u m e = -149 ∨ fz_u m e = e + (Nat.log2 m : Int) - 23) := by
  unfold fz_u
  split <;> omega
theorem fz_left {m : Nat} {e : Int} (h0 : m ≠ 0) (h : fz_u m e ≤ e) : m * 2 ^ (e - fz_u m e).toNat < 16777216 ∧ (e - fz_u m e).toNat ≤ 23 ∧ (fz_u m e = e + (Nat.log2 m : Int) - 23 → 8388608 ≤ m * 2 ^ (e - fz_u m e).toNat) := by
  have hb := fz_uB m e
  have h1 := fz_lo h0
  have h2 := fz_hi h0
  generalize hk : (e - fz_u m e).toNat = k
  have hp := Nat.two_pow_pos k
  refine ⟨?_, by omega, fun hq => ?_⟩
  · have a1 : m * 2 ^ k < 2 ^ (Nat.log2 m + 1) * 2 ^ k := Nat.mul_lt_mul_of_pos_right h2 hp
    rw [← Nat.pow_add] at a1
    have a2 : 2 ^ (Nat.log2 m + 1 + k) ≤ 2 ^ 24 := Nat.pow_le_pow_right (by decide) (by omega)
    omega
  · have a1 : 2 ^ Nat.log2 m * 2 ^ k ≤ m * 2 ^ k := Nat.mul_le_mul_right _ h1
    rw [← Nat.pow_add, show Nat.log2 m + k = 23 by omega] at a1
    omega
theorem fz_rnB {m n : Nat} (h0 : m ≠ 0) (st : Bool) (hn : Nat.log2 m ≤ n + 23) : m / 2 ^ n < 16777216 ∧ fz_rn m n st ≤ 16777216 ∧ m / 2 ^ n ≤ fz_rn m n st := by
  have h2 := fz_hi h0
  have a1 : m / 2 ^ n < 16777216 := by
    rw [Nat.div_lt_iff_lt_mul (Nat.two_pow_pos n)]
    refine Nat.lt_of_lt_of_le h2 ?_
    rw [show (16777216 : Nat) = 2 ^ 24 from rfl, ← Nat.pow_add]
    exact Nat.pow_le_pow_right (by decide) (by omega)
  refine ⟨a1, ?_, ?_⟩
  · unfold fz_rn
    split <;> omega
  · unfold fz_rn
    split <;> omega
theorem fz_top {m : Nat} {e : Int} (h0 : m ≠ 0) (h : 104 < fz_u m e) (st : Bool) : fz m e st = 2139095040 := by
  have hb := fz_uB m e
  unfold fz
  rw [if_neg h0]
  by_cases hc : fz_u m e ≤ e
  · rw [if_pos hc]
    have := (fz_left h0 hc).2.2 (by omega)
    exact fz_capT (by omega)
  · rw [if_neg hc]
    have h1 := fz_lo h0
    have h3 : 8388608 ≤ m / 2 ^ (fz_u m e - e).toNat := by
      rw [Nat.le_div_iff_mul_le (Nat.two_pow_pos _), show (8388608 : Nat) = 2 ^ 23 from rfl, ← Nat.pow_add, show 23 + (fz_u m e - e).toNat = Nat.log2 m by omega]
      exact h1
    have h4 := (fz_rnB (n := (fz_u m e - e).toNat) h0 st (by omega)).2.2
    exact fz_capT (by omega)
theorem fz_small {m : Nat} {e : Int} (h0 : m ≠ 0) (h : (Nat.log2 m : Int) + 1 < fz_u m e - e) : fz m e false = 0 := by
  have hb := fz_uB m e
  have h2 := fz_hi h0
  unfold fz
  rw [if_neg h0, if_neg (by omega)]
  generalize hn : (fz_u m e - e).toNat = n
  have a1 : 2 ^ (Nat.log2 m + 1) ≤ 2 ^ (n - 1) := Nat.pow_le_pow_right (by decide) (by omega)
  have a2 : 2 ^ (n - 1) ≤ 2 ^ n := Nat.pow_le_pow_right (by decide) (by omega)
  have d1 : m / 2 ^ (n - 1) = 0 := Nat.div_eq_of_lt (by omega)
  have d2 : m / 2 ^ n = 0 := Nat.div_eq_of_lt (by omega)
  unfold fz_rn
  rw [d1, d2, if_neg (by omega), show (fz_u m e + 149).toNat = 0 by omega, Nat.zero_mul, Nat.add_zero]
  exact fz_capE (by omega)
theorem fz_rnC {m i : Nat} : fz_rn m (i + 1) false = if 2 ^ i < m % 2 ^ (i + 1) then m / 2 ^ (i + 1) + 1 else if m % 2 ^ (i + 1) = 2 ^ i then (if m / 2 ^ (i + 1) % 2 = 1 then m / 2 ^ (i + 1) + 1 else m / 2 ^ (i + 1)) else m / 2 ^ (i + 1) := by
  have hm : m % 2 ^ (i + 1) = m % 2 ^ i + 2 ^ i * (m / 2 ^ i % 2) := Nat.mod_pow_succ
  have hr : m % 2 ^ i < 2 ^ i := Nat.mod_lt _ (Nat.two_pow_pos i)
  have hp := Nat.two_pow_pos i
  unfold fz_rn
  rw [hm, Nat.add_sub_cancel]
  rcases (show m / 2 ^ i % 2 = 0 ∨ m / 2 ^ i % 2 = 1 by omega) with hb | hb
  · rw [hb, Nat.mul_zero, Nat.add_zero, if_neg (by omega), if_neg (by omega), if_neg (by omega)]
  · rw [hb, Nat.mul_one]
    by_cases hz : m % 2 ^ i = 0
    · rw [hz, Nat.zero_add, if_neg (Nat.lt_irrefl _), if_pos rfl]
      by_cases ho : m / 2 ^ (i + 1) % 2 = 1
      · rw [if_pos ⟨rfl, Or.inr (Or.inr ho)⟩, if_pos ho]
      · rw [if_neg (fun q => q.2.elim (fun h => Bool.noConfusion h) (fun h => h.elim (fun h => h rfl) ho)), if_neg ho]
    · rw [if_pos ⟨rfl, Or.inr (Or.inl hz)⟩, if_pos (by omega)]
set_option maxHeartbeats 4000000 in
theorem kz_nearest {m : Nat} {ex : Int32} (g : Int32) (h : m < 9223372036854775808) (he : -3000 ≤ ex.toInt ∧ ex.toInt ≤ 3000) : kX2_nearest g (lN m) ex = g ||| nI (fz m ex.toInt false) := by
  by_cases h0 : m = 0
  · subst h0
    unfold kX2_nearest
    rw [if_pos (by decide), fz_zero, nI_0]
    exact Int32.or_zero.symm
  have hL : Nat.log2 m ≤ 62 := fz_logle h0 (by omega)
  have hb := fz_uB m ex.toInt
  have c24 : (24 : Int32).toInt = 24 := by decide
  have c149 : (-149 : Int32).toInt = -149 := by decide
  have d149 : (149 : Int32).toInt = 149 := by decide
  have c0 : (0 : Int32).toInt = 0 := by decide
  have c1 : (1 : Int32).toInt = 1 := by decide
  have e15 : kX2_nearest_s15 g (lN m) ex = nI (Nat.log2 m + 1) := by
    unfold kX2_nearest_s15
    rw [kz_nlz (by omega) h, show (64 : Int32) = nI 64 from rfl, pk_sub (by omega)]
    exact kz_nIc (by omega)
  have i15 : (nI (Nat.log2 m + 1)).toInt = (Nat.log2 m : Int) + 1 := by
    rw [nI_toInt (by omega)]
    omega
  have e30 : (kX2_nearest_s30 g (lN m) ex).toInt = fz_u m ex.toInt := by
    unfold kX2_nearest_s30
    have a1 : (ex + nI (Nat.log2 m + 1)).toInt = ex.toInt + ((Nat.log2 m : Int) + 1) := by
      rw [px_iadd (by omega) (by omega), i15]
    rw [kz_kmax, e15, px_isub (by omega) (by omega), a1, c24, c149]
    unfold fz_u
    split <;> split <;> omega
  have e36 : (kX2_nearest_s36 g (lN m) ex).toInt = fz_u m ex.toInt - ex.toInt := by
    unfold kX2_nearest_s36
    rw [px_isub (by omega) (by omega), e30]
  unfold kX2_nearest
  rw [if_neg (by rw [pk_lT (by omega)]; omega), e30, e36, e15, i15]
  by_cases hcap : fz_u m ex.toInt ≤ 104
  · rw [if_pos hcap]
    by_cases hsh : fz_u m ex.toInt - ex.toInt ≤ (Nat.log2 m : Int) + 1
    · rw [if_pos hsh]
      have hk : ∃ q, kX2_nearest_129_z25 g (lN m) ex = lN q ∧ q ≤ 16777216 ∧ fz m ex.toInt false = (fz_u m ex.toInt + 149).toNat * 8388608 + q := by
        unfold kX2_nearest_129_z25
        rw [e36]
        by_cases hs : fz_u m ex.toInt - ex.toInt ≤ 0
        · obtain ⟨l1, l2, l3⟩ := fz_left h0 (show fz_u m ex.toInt ≤ ex.toInt by omega)
          rw [if_pos hs]
          refine ⟨m * 2 ^ (ex.toInt - fz_u m ex.toInt).toNat, ?_, by omega, ?_⟩
          · unfold kX2_nearest_s68
            have a1 : kmax (-(kX2_nearest_s36 g (lN m) ex)) 0 = nI (ex.toInt - fz_u m ex.toInt).toNat := by
              apply kz_nIeq
              rw [kz_kmax, kz_neg (by omega), e36, c0]
              split <;> omega
            rw [a1, wb_shl _ (by omega)]
          · unfold fz
            rw [if_neg h0, if_pos (by omega), fz_capE (by omega)]
        · rw [if_neg hs]
          obtain ⟨i, hi⟩ : ∃ i, (fz_u m ex.toInt - ex.toInt).toNat = i + 1 := ⟨(fz_u m ex.toInt - ex.toInt).toNat - 1, by omega⟩
          have a36 : kX2_nearest_s36 g (lN m) ex = nI (i + 1) := kz_nIeq (by rw [e36]; omega)
          have hn := fz_rnB (n := i + 1) h0 false (by omega)
          have p0 : 2 ^ (i + 1) < 2 ^ 64 := Nat.pow_lt_pow_right (by decide) (by omega)
          have p1 : 2 ^ i < 2 ^ 63 := Nat.pow_lt_pow_right (by decide) (by omega)
          have hdm := Nat.div_add_mod m (2 ^ (i + 1))
          have hml : m % 2 ^ (i + 1) ≤ m := Nat.mod_le _ _
          have a79 : kX2_nearest_s79 g (lN m) ex = lN (m / 2 ^ (i + 1)) := by
            unfold kX2_nearest_s79
            rw [a36, wb_shr (by omega) (by omega)]
          have a88 : kX2_nearest_s88 g (lN m) ex = lN (m % 2 ^ (i + 1)) := by
            unfold kX2_nearest_s88
            rw [a79, a36, wb_shl _ (by omega), Nat.mul_comm, lN_sub (by omega)]
            exact kz_lNc (by omega)
          have a96 : kX2_nearest_s96 g (lN m) ex = lN (2 ^ i) := by
            unfold kX2_nearest_s96
            rw [a36, nI_pred, show (1 : Int64) = lN 1 from rfl, wb_shl _ (by omega), Nat.one_mul]
          have a127 : kX2_nearest_s127 g (lN m) ex = lN (m / 2 ^ (i + 1) + 1) := by
            unfold kX2_nearest_s127
            rw [a79, lN_1]
          have aod : (kX2_nearest_s79 g (lN m) ex &&& 1 : Int64).toInt = ((m / 2 ^ (i + 1) % 2 : Nat) : Int) := by
            rw [a79, wb_a1 (by omega), pk_lT (by omega)]
          refine ⟨fz_rn m (i + 1) false, ?_, hn.2.1, ?_⟩
          · rw [fz_rnC]
            unfold kX2_nearest_129_z22 kX2_nearest_129_z19 kX2_nearest_129_z16
            rw [aod, a96, a88, a127, a79, pk_lT (by omega), pk_lT (by omega)]
            by_cases t1 : 2 ^ i < m % 2 ^ (i + 1)
            · rw [if_pos (by omega), if_pos t1]
            · rw [if_neg (by omega), if_neg t1]
              by_cases t2 : m % 2 ^ (i + 1) = 2 ^ i
              · rw [if_pos (by omega), if_pos t2]
                by_cases t3 : m / 2 ^ (i + 1) % 2 = 1
                · rw [if_pos (by omega), if_pos t3]
                · rw [if_neg (by omega), if_neg t3]
              · rw [if_neg (by omega), if_neg t2]
          · unfold fz
            rw [if_neg h0, if_neg (by omega), hi, fz_capE (by omega)]
      obtain ⟨q, hq1, hq2, hq3⟩ := hk
      have a149 : kX2_nearest_s30 g (lN m) ex + 149 = nI (fz_u m ex.toInt + 149).toNat := by
        apply kz_nIeq
        rw [px_iadd (by omega) (by omega), e30, d149]
        omega
      rw [hq1, hq3, lN_i, a149, pk_shlN (23 &&& 31) 23 (by decide) (by omega), nI_add]
    · rw [if_neg hsh, fz_small h0 (by omega), nI_0]
      exact Int32.or_zero.symm
  · rw [if_neg hcap, fz_top h0 (by omega)]
    rfl
