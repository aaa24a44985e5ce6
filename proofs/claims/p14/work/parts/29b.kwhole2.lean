theorem fz_grwE {a d : Nat} (h : a < 1258291200) (hd : fz_pw a = -(d : Int)) : fz_grw a = if fz_dg a % 2 ^ d = 0 then fz_cut a else fz_nxt a := by
  unfold fz_grw
  by_cases h1 : a < 1065353216
  · obtain ⟨d', q1, q2, q3, q4, q5⟩ := fz_low h1
    have : d = d' := by omega
    subst this
    have hb := fz_dgB a
    rw [q5, if_pos h, if_pos h1]
    by_cases h0 : a = 0
    · rw [if_pos h0, if_pos (by rw [h0]; rfl)]
      unfold fz_cut
      rw [if_pos h1]
    · rw [if_neg h0, if_neg (fun q => h0 (hb.2.2.2 q))]
      unfold fz_nxt
      rw [if_pos h1]
  · obtain ⟨d', q0, q1, q2, q3, q4, q5, q6⟩ := fz_E (by omega) h
    have : d = d' := by omega
    subst this
    obtain ⟨r1, r2, r3⟩ := fz_divE (a := a) q2 (by omega) q4
    rw [if_neg (by omega), if_pos h, if_neg h1, q0, r2]
    unfold fz_cut
    rw [if_neg h1, if_pos h, q0]
def fz_who (s : Bool) (how a : Nat) : Nat := if how = 0 then (if s = true then fz_grw a else fz_cut a) else if how = 1 then (if s = true then fz_cut a else fz_grw a) else if how = 2 then fz_nea a else fz_cut a
theorem fz_par {a d k : Nat} (hk : k ≤ 23) (h : (149 - d) * 8388608 + fz_dg a = a) : a % 2 ^ k = fz_dg a % 2 ^ k ∧ a / 2 ^ k = fz_dg a / 2 ^ k + (149 - d) * 2 ^ (23 - k) := by
  have hp := Nat.two_pow_pos k
  have e23 : 8388608 = 2 ^ (23 - k) * 2 ^ k := by rw [← Nat.pow_add, show 23 - k + k = 23 by omega]
  have e1 : a = fz_dg a + (149 - d) * 2 ^ (23 - k) * 2 ^ k := by
    rw [Nat.mul_assoc, ← e23]
    omega
  refine ⟨?_, ?_⟩
  · rw [e1, Nat.add_mul_mod_self_right, ← e1]
  · rw [e1, Nat.add_mul_div_right _ _ hp, ← e1]
theorem fz_neaE {a d : Nat} (h : a < 1258291200) (hd : fz_pw a = -(d : Int)) (hd1 : 1 ≤ d) : fz_nea a = if d ≤ 40 ∧ fz_dg a / 2 ^ (d - 1) % 2 = 1 ∧ (¬ fz_dg a % 2 ^ (d - 1) = 0 ∨ fz_dg a / 2 ^ d % 2 = 1) then fz_nxt a else fz_cut a := by
  unfold fz_nea
  rw [if_pos h]
  have hb := fz_dgB a
  by_cases h1 : a < 1065353216
  · obtain ⟨d', q1, q2, q3, q4, q5⟩ := fz_low h1
    have : d = d' := by omega
    subst this
    rw [if_pos h1]
    unfold fz_nxt fz_cut
    rw [if_pos h1, if_pos h1, q4]
    by_cases h24 : d = 24
    · subst h24
      have hw : a / 8388608 = 126 ∧ 8388608 ≤ a := by
        unfold fz_pw at hd
        split at hd <;> omega
      have hdg : fz_dg a = a % 8388608 + 8388608 := by
        unfold fz_dg
        rw [if_neg (by omega)]
      rw [show (24 : Nat) - 1 = 23 from rfl, show (2 : Nat) ^ 23 = 8388608 from rfl, hdg]
      by_cases hq : 1056964608 < a
      · rw [if_pos hq, if_pos ⟨by omega, by omega, Or.inl (by omega)⟩]
      · rw [if_neg hq, if_neg (by omega)]
    · have hp : 2 ^ 24 ≤ 2 ^ (d - 1) := Nat.pow_le_pow_right (by decide) (by omega)
      rw [Nat.div_eq_of_lt (show fz_dg a < 2 ^ (d - 1) by omega), if_neg (show ¬ (d ≤ 40 ∧ 0 % 2 = 1 ∧ _) from fun q => absurd q.2.1 (by decide))]
      have : ¬ 1056964608 < a := by
        intro q
        unfold fz_pw at hd
        split at hd <;> omega
      rw [if_neg this]
  · obtain ⟨d', q0, q1, q2, q3, q4, q5, q6⟩ := fz_E (by omega) h
    have : d = d' := by omega
    subst this
    rw [if_neg h1, q0]
    obtain ⟨u1, u2⟩ := fz_par (a := a) (d := d) (k := d - 1) (by omega) q4
    obtain ⟨v1, v2⟩ := fz_par (a := a) (d := d) (k := d) q2 q4
    have w1 : a / 2 ^ (d - 1) % 2 = fz_dg a / 2 ^ (d - 1) % 2 := by
      rw [u2, show 23 - (d - 1) = (23 - d) + 1 by omega, Nat.pow_succ, ← Nat.mul_assoc]
      omega
    have w2 : a / 2 ^ d % 2 = fz_dg a / 2 ^ d % 2 := by
      rw [v2]
      by_cases h23 : d = 23
      · rw [h23]
        omega
      · rw [show 23 - d = (22 - d) + 1 by omega, Nat.pow_succ, ← Nat.mul_assoc]
        omega
    rw [u1, w1, w2]
    by_cases hc : fz_dg a / 2 ^ (d - 1) % 2 = 1 ∧ (¬ fz_dg a % 2 ^ (d - 1) = 0 ∨ fz_dg a / 2 ^ d % 2 = 1)
    · rw [if_pos hc, if_pos ⟨by omega, hc⟩]
    · rw [if_neg hc, if_neg (fun q => hc q.2)]
theorem fz_bIz (b : Bool) : (fz_bI b).toInt = 0 ↔ b = false := by cases b <;> decide
theorem fz_bIf {p : Prop} [Decidable p] {q : Prop} [Decidable q] (h : p ↔ ¬ q) : (if p then (0 : Int32) else 1) = fz_bI (decide q) := by
  by_cases hq : q
  · rw [if_neg (fun t => h.mp t hq), decide_eq_true hq]
    rfl
  · rw [if_pos (h.mpr hq), decide_eq_false hq]
    rfl
theorem fz_bIt {p : Prop} [Decidable p] {q : Prop} [Decidable q] (h : p ↔ q) : (if p then (1 : Int32) else 0) = fz_bI (decide q) := by
  by_cases hq : q
  · rw [if_pos (h.mpr hq), decide_eq_true hq]
    rfl
  · rw [if_neg (fun t => hq (h.mp t)), decide_eq_false hq]
    rfl
theorem kz_sarR {n d : Nat} (hn : n < 16777216) (hd : d < 300) : (if ((nI d : Int32)).toInt ≤ 40 then lN n >>> ((nI d).toInt64 &&& 63) else 0) = lN (n / 2 ^ d) := by
  rw [nI_toInt (by omega)]
  by_cases h : (d : Int) ≤ 40
  · rw [if_pos h, kz_sar (by omega) (by omega)]
  · rw [if_neg h, (kz_modD hn (by omega)).1]
    rfl
theorem kz_shlR {n d : Nat} (hn : n < 16777216) (hd : d ≤ 40) : (lN (n / 2 ^ d) <<< ((nI d).toInt64 &&& 63)).toInt = ((lN n).toInt : Int) ↔ n % 2 ^ d = 0 := by
  have hdm := Nat.div_add_mod n (2 ^ d)
  have hc : 2 ^ d * (n / 2 ^ d) = n / 2 ^ d * 2 ^ d := Nat.mul_comm _ _
  rw [wb_shl _ (by omega), pk_lT (by omega), pk_lT (by omega)]
  omega
theorem kz_oddR {n : Nat} (hn : n < 4611686018427387904) : (lN n - lN n / 2 * 2).toInt = ((n % 2 : Nat) : Int) := by
  rw [show (2 : Int64) = lN 2 from rfl, pk_lRem (by omega) (by omega) (by omega), pk_lT (by omega)]
set_option maxHeartbeats 4000000 in
theorem kz_wholeR {a : Nat} (s : Bool) (ha : a ≤ 2139095040) {how : Int32} {hw : Nat} (hh : how.toInt = hw) (hh3 : hw ≤ 3) : kX8_wholeOf (fz_plc s a) how = fz_plc s (fz_who s hw a) := by
  have ha2 : a < 2147483648 := by omega
  have da := fz_dgB a
  have pa := fz_pwB a
  have hpa := kz_powP s ha2
  unfold kX8_wholeOf
  rw [if_neg (kz_plc9 s ha2), hpa]
  by_cases hbig : a < 1258291200
  · obtain ⟨d, hd, hd1, hd2⟩ : ∃ d : Nat, fz_pw a = -(d : Int) ∧ 1 ≤ d ∧ d ≤ 149 := ⟨(-(fz_pw a)).toNat, by unfold fz_pw; split <;> omega, by unfold fz_pw; split <;> omega, by omega⟩
    rw [if_pos (by omega)]
    have en : -(kX8_power (fz_plc s a)) = nI d := kz_nIeq (by rw [kz_neg (by omega), hpa]; omega)
    have e15 : kX8_wholeOf_39_z15 (fz_plc s a) how = lN (fz_dg a / 2 ^ d) := by
      unfold kX8_wholeOf_39_z15
      rw [en, kz_digP s ha2, kz_sarR da.1 (by omega)]
    have e36 : kX8_wholeOf_81_z36 (fz_plc s a) how = fz_bI (decide (fz_dg a % 2 ^ d = 0)) := by
      unfold kX8_wholeOf_81_z36 kX8_wholeOf_81_z24 kX8_wholeOf_81_z33
      rw [e15, en, kz_digP s ha2, nI_toInt (by omega)]
      by_cases h40 : (d : Int) ≤ 40
      · rw [if_pos h40]
        exact fz_bIt (kz_shlR da.1 (by omega))
      · rw [if_neg h40, (kz_modD da.1 (by omega)).2]
        exact fz_bIt (by rw [pk_lT (by omega)]; omega)
    have e41 : kX8_wholeOf_94_z41 (fz_plc s a) how = fz_bI s := by
      unfold kX8_wholeOf_94_z41
      exact kz_neg1 s ha2
    have fin : ∀ inc : Bool, kX8_wholeOf_218_z102 (fz_plc s a) how = fz_bI inc → kX8_pack (kX8_wholeOf_94_z41 (fz_plc s a) how) (kX8_wholeOf_234_z107 (fz_plc s a) how) 0 0 = fz_plc s (if inc = true then fz_nxt a else fz_cut a) := by
      intro inc hinc
      have hle : fz_dg a / 2 ^ d ≤ fz_dg a := Nat.div_le_self _ _
      obtain ⟨w1, w2⟩ := fz_wcut hbig hd
      unfold kX8_wholeOf_234_z107
      rw [hinc, e15, e41]
      have c0 : (0 : Int32).toInt = 0 := by decide
      cases inc with
      | false =>
        rw [if_pos (by decide), if_neg (by decide), ← w1]
        exact (kz_pack s false (by omega) (by omega)).trans (by rw [c0])
      | true =>
        rw [if_neg (by decide), if_pos rfl, ← w2, lN_1]
        exact (kz_pack s false (by omega) (by omega)).trans (by rw [c0])
    have hg := fz_grwE hbig hd
    have hn := fz_neaE hbig hd hd1
    have b0 : hw < 2 → kX8_wholeOf_218_z102 (fz_plc s a) how = fz_bI (decide (¬ fz_dg a % 2 ^ d = 0 ∧ (s = true ↔ hw = 0))) := by
      intro h2
      unfold kX8_wholeOf_218_z102 kX8_wholeOf_216_z99 kX8_wholeOf_216_z96 kX8_wholeOf_208_z91
      rw [hh, if_neg (by omega), e36, e41]
      by_cases hz : fz_dg a % 2 ^ d = 0
      · rw [decide_eq_true hz, if_neg (by decide), decide_eq_false (fun q => q.1 hz)]
        rfl
      · rw [decide_eq_false hz, if_pos (by decide), show decide (¬ fz_dg a % 2 ^ d = 0 ∧ (s = true ↔ hw = 0)) = decide (s = true ↔ hw = 0) by simp [hz]]
        rcases (show hw = 0 ∨ hw = 1 by omega) with r | r
        · subst r
          cases s <;> decide
        · subst r
          cases s <;> decide
    unfold fz_who
    rcases (show hw = 0 ∨ hw = 1 ∨ hw = 2 ∨ hw = 3 by omega) with r | r | r | r
    · subst r
      refine (fin _ (b0 (by omega))).trans (congrArg (fz_plc s) ?_)
      rw [hg]
      by_cases hz : fz_dg a % 2 ^ d = 0 <;> cases s <;> simp [hz]
    · subst r
      refine (fin _ (b0 (by omega))).trans (congrArg (fz_plc s) ?_)
      rw [hg]
      by_cases hz : fz_dg a % 2 ^ d = 0 <;> cases s <;> simp [hz]
    · subst r
      have e2 : kX8_wholeOf_218_z102 (fz_plc s a) how = fz_bI (decide (d ≤ 40 ∧ fz_dg a / 2 ^ (d - 1) % 2 = 1 ∧ (¬ fz_dg a % 2 ^ (d - 1) = 0 ∨ fz_dg a / 2 ^ d % 2 = 1))) := by
        unfold kX8_wholeOf_218_z102 kX8_wholeOf_187_z82 kX8_wholeOf_187_z79
        rw [hh, if_pos (by omega), if_pos (by omega), en, nI_toInt (by omega)]
        by_cases h40 : 40 < (d : Int)
        · rw [if_pos h40, decide_eq_false (fun q => by omega)]
          rfl
        · rw [if_neg h40]
          have en1 : nI d - 1 = nI (d - 1) := by rw [show (1 : Int32) = nI 1 from rfl, pk_sub hd1]
          have e118 : kX8_wholeOf_s118 (fz_plc s a) how = lN (fz_dg a / 2 ^ (d - 1)) := by
            unfold kX8_wholeOf_s118
            rw [en, en1, kz_digP s ha2, kz_sar (by omega) (by omega)]
          have hle1 : fz_dg a / 2 ^ (d - 1) ≤ fz_dg a := Nat.div_le_self _ _
          have hle2 : fz_dg a / 2 ^ d ≤ fz_dg a := Nat.div_le_self _ _
          have e53 : kX8_wholeOf_136_z53 (fz_plc s a) how = fz_bI (decide (fz_dg a / 2 ^ (d - 1) % 2 = 1)) := by
            unfold kX8_wholeOf_136_z53
            rw [e118, kz_oddR (by omega)]
            exact fz_bIt (by omega)
          have e61 : kX8_wholeOf_157_z61 (fz_plc s a) how = fz_bI (decide (¬ fz_dg a % 2 ^ (d - 1) = 0)) := by
            unfold kX8_wholeOf_157_z61
            rw [e118, en, en1, kz_digP s ha2]
            exact fz_bIf ((kz_shlR da.1 (by omega)).trans (by omega))
          have e70 : kX8_wholeOf_185_z70 (fz_plc s a) how = fz_bI (decide (fz_dg a / 2 ^ d % 2 = 1)) := by
            unfold kX8_wholeOf_185_z70
            rw [e15, kz_oddR (by omega)]
            exact fz_bIt (by omega)
          unfold kX8_wholeOf_185_z76 kX8_wholeOf_185_z73
          rw [e53, e61, e70]
          have h4 : d ≤ 40 := by omega
          have hR : decide (d ≤ 40 ∧ fz_dg a / 2 ^ (d - 1) % 2 = 1 ∧ (¬ fz_dg a % 2 ^ (d - 1) = 0 ∨ fz_dg a / 2 ^ d % 2 = 1)) = (decide (fz_dg a / 2 ^ (d - 1) % 2 = 1) && (decide (¬ fz_dg a % 2 ^ (d - 1) = 0) || decide (fz_dg a / 2 ^ d % 2 = 1))) := by
            by_cases t1 : fz_dg a / 2 ^ (d - 1) % 2 = 1 <;> by_cases t2 : fz_dg a % 2 ^ (d - 1) = 0 <;> by_cases t3 : fz_dg a / 2 ^ d % 2 = 1 <;> simp [t1, t2, t3, h4]
          rw [hR]
          generalize decide (fz_dg a / 2 ^ (d - 1) % 2 = 1) = x1
          generalize decide (¬ fz_dg a % 2 ^ (d - 1) = 0) = x2
          generalize decide (fz_dg a / 2 ^ d % 2 = 1) = x3
          cases x1 <;> cases x2 <;> cases x3 <;> decide
      refine (fin _ e2).trans (congrArg (fz_plc s) ?_)
      rw [if_neg (show ¬ 2 = 0 by decide), if_neg (show ¬ 2 = 1 by decide), if_pos (show 2 = 2 from rfl), hn]
      by_cases hc : d ≤ 40 ∧ fz_dg a / 2 ^ (d - 1) % 2 = 1 ∧ (¬ fz_dg a % 2 ^ (d - 1) = 0 ∨ fz_dg a / 2 ^ d % 2 = 1)
      · rw [if_pos (decide_eq_true hc), if_pos hc]
      · rw [if_neg (fun q => hc (of_decide_eq_true q)), if_neg hc]
    · subst r
      have e3 : kX8_wholeOf_218_z102 (fz_plc s a) how = fz_bI false := by
        unfold kX8_wholeOf_218_z102 kX8_wholeOf_187_z82
        rw [hh, if_pos (by omega), if_neg (by omega)]
        rfl
      refine (fin _ e3).trans (congrArg (fz_plc s) ?_)
      rw [if_neg (show ¬ false = true by decide), if_neg (show ¬ 3 = 0 by decide), if_neg (show ¬ 3 = 1 by decide), if_neg (show ¬ 3 = 2 by decide)]
  · rw [if_neg (by unfold fz_pw; split <;> omega)]
    refine congrArg (fz_plc s) ?_
    unfold fz_who fz_grw fz_cut fz_nea
    simp only [hbig, if_false, show ¬ a = 0 by omega, show ¬ a < 1065353216 by omega, ite_self]
