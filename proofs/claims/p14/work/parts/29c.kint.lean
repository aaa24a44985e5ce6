/-! ints -/
theorem fz_dpE {c d X : Nat} (hd : d ≤ 23) (hc : c = (149 - d) * 8388608 + X) (h1 : 8388608 ≤ X) (h2 : X < 16777216) : fz_dg c = X ∧ fz_pw c = -(d : Int) := by
  unfold fz_dg fz_pw
  rw [if_neg (by omega), if_neg (by omega)]
  omega
theorem kz_intR {a v : Nat} (s : Bool) (ha2 : a < 2147483648) (hv : v ≤ 2147483647) (h37 : kX8_intOf_91_z37 (fz_plc s a) = lN v) : kX8_intOf (fz_plc s a) = if v = 0 then fz_plc false 0 else fz_plc s (fz v 0 false) := by
  unfold kX8_intOf kX8_intOf_156_z60 kX8_intOf_125_z47 kX8_intOf_108_z42 kX8_intOf_149_z53
  have hn := kz_plcNeg s ha2
  have c0 : (0 : Int32).toInt = 0 := by decide
  have c1 : (2147483647 : Int64).toInt = 2147483647 := by decide
  have c2 : (2147483648 : Int64).toInt = 2147483648 := by decide
  have hmin : (if (lN v).toInt ≤ ((if 0 ≤ (fz_plc s a).toInt then (2147483647 : Int64) else 2147483648)).toInt then lN v else (if 0 ≤ (fz_plc s a).toInt then (2147483647 : Int64) else 2147483648)) = lN v := by
    apply if_pos
    rw [pk_lT (by omega)]
    split
    · rw [c1]
      omega
    · rw [c2]
      omega
  rw [if_neg (kz_plc9 s ha2), h37, hmin, kz_neg1 s ha2, pk_lT (by omega)]
  by_cases h0 : v = 0
  · rw [if_pos (by omega), if_pos h0]
    rfl
  · rw [if_neg (by omega), if_neg h0]
    exact (kz_pack s false (by omega) (by omega)).trans (by rw [c0])
theorem kz_37 {a c v : Nat} (s : Bool) (hw : kX8_wholeOf (fz_plc s a) 3 = fz_plc s c) (hc : c < 2139095040) (h7 : fz_pw c ≤ 7) (hv : fz_pw c < 0 ∧ v = fz_dg c / 2 ^ (-(fz_pw c)).toNat ∨ 0 ≤ fz_pw c ∧ v = fz_dg c * 2 ^ (fz_pw c).toNat) : kX8_intOf_91_z37 (fz_plc s a) = lN v := by
  have hc2 : c < 2147483648 := by omega
  have dc := fz_dgB c
  have pc := fz_pwB c
  have hp := kz_powP s hc2
  have c40 : (40 : Int32) = nI 40 := rfl
  have e22 : (kX8_intOf_47_z22 (fz_plc s a)).toInt = 0 := by
    unfold kX8_intOf_47_z22 kX8_intOf_47_z19
    rw [hw, kz_inf0 s hc2 (by omega), if_pos rfl, hp, if_pos h7]
    decide
  unfold kX8_intOf_91_z37
  rw [if_pos e22]
  unfold kX8_intOf_91_z33
  rw [hw, hp, kz_digP s hc2]
  rcases hv with ⟨v1, v2⟩ | ⟨v1, v2⟩
  · rw [if_pos v1, v2]
    unfold kX8_intOf_90_z29
    rw [hw, hp]
    by_cases h40 : (-40 : Int) ≤ fz_pw c
    · have en : -(kX8_power (fz_plc s c)) = nI (-(fz_pw c)).toNat := kz_nIeq (by rw [kz_neg (by omega), hp]; omega)
      rw [if_pos h40, en, kz_sar (by omega) (by omega)]
    · have h1 : 2 ^ 24 ≤ 2 ^ (-(fz_pw c)).toNat := Nat.pow_le_pow_right (by decide) (by omega)
      rw [if_neg h40, c40, kz_sar (by omega) (by omega), Nat.div_eq_of_lt (show fz_dg c < 2 ^ 40 by omega), Nat.div_eq_of_lt (show fz_dg c < 2 ^ (-(fz_pw c)).toNat by omega)]
  · have en : kX8_power (fz_plc s c) = nI (fz_pw c).toNat := kz_nIeq (by rw [hp]; omega)
    rw [if_neg (by omega), v2, en, wb_shl _ (by omega)]
set_option maxHeartbeats 4000000 in
theorem kv_int {a : Nat} (s : Bool) (ha : a ≤ 2139095040) : VR (kX0_asInt (fz_sg s) (nI a)) (kX8_intOf (fz_plc s a)) := by
  have ha2 : a < 2147483648 := by omega
  have hw : kX8_wholeOf (fz_plc s a) 3 = fz_plc s (fz_cut a) := by
    rw [kz_wholeR s ha (how := 3) (hw := 3) (by decide) (by omega)]
    rfl
  unfold kX0_asInt kX0_asInt_24_z8
  rw [nI_toInt ha2, kz_cut ha2]
  by_cases h1 : a < 1065353216
  · have hc : fz_cut a = 0 := by
      unfold fz_cut
      rw [if_pos h1]
    rw [hc] at hw
    have h37 := kz_37 (v := 0) s hw (by omega) (by decide) (Or.inl ⟨by decide, by rw [show fz_dg 0 = 0 from rfl, Nat.zero_div]⟩)
    rw [if_neg (by omega), kz_intR s ha2 (by omega) h37, if_pos rfl]
    exact VR.num false (a := 0) (by omega)
  · rw [if_pos (by omega)]
    by_cases h2 : a < 1258291200
    · obtain ⟨d, q0, q1, q2, q3, q4, q5, q6⟩ := fz_E (by omega) h2
      obtain ⟨r1, r2, r3⟩ := fz_divE (a := a) q2 (by omega) q4
      have hp := Nat.two_pow_pos d
      have hdm := Nat.div_add_mod (fz_dg a) (2 ^ d)
      have hml := Nat.mod_lt (fz_dg a) hp
      have hcm : 2 ^ d * (fz_dg a / 2 ^ d) = fz_dg a / 2 ^ d * 2 ^ d := Nat.mul_comm _ _
      have e23 : 2 ^ (23 - d) * 2 ^ d = 8388608 := by rw [← Nat.pow_add, show 23 - d + d = 23 by omega]
      have m1 : 2 ^ (23 - d) ≤ fz_dg a / 2 ^ d := by
        rw [Nat.le_div_iff_mul_le hp]
        omega
      have m3 : 2 ^ (23 - d) * 2 ^ d ≤ fz_dg a / 2 ^ d * 2 ^ d := Nat.mul_le_mul_right _ m1
      have hle : fz_dg a / 2 ^ d ≤ fz_dg a := Nat.div_le_self _ _
      have hp23 := Nat.two_pow_pos (23 - d)
      have hc : fz_cut a = (149 - d) * 8388608 + fz_dg a / 2 ^ d * 2 ^ d := by
        unfold fz_cut
        rw [if_neg h1, if_pos h2, q0, r1]
      obtain ⟨w1, w2⟩ := fz_dpE q2 hc (by omega) (by omega)
      have h37 := kz_37 (v := fz_dg a / 2 ^ d) s hw (by omega) (by omega) (Or.inl ⟨by omega, by rw [w1, w2, show (-(-(d : Int))).toNat = d by omega, Nat.mul_div_cancel _ hp]⟩)
      rw [if_pos (by omega), kz_intR s ha2 (by omega) h37, if_neg (by omega), (fz_wcut h2 q3).1]
      exact VR.num s (by omega)
    · have hc : fz_cut a = a := by
        unfold fz_cut
        rw [if_neg h1, if_neg h2]
      rw [hc] at hw
      rw [hc]
      by_cases h3 : a < 1325400064
      · have da := fz_dgB a
        have hpw : 0 ≤ fz_pw a ∧ fz_pw a ≤ 7 := by
          unfold fz_pw
          rw [if_neg (by omega)]
          omega
        obtain ⟨e, he⟩ : ∃ e : Nat, fz_pw a = e := ⟨(fz_pw a).toNat, by omega⟩
        have p7 : 2 ^ e ≤ 2 ^ 7 := Nat.pow_le_pow_right (by decide) (by omega)
        have hb : fz_dg a * 2 ^ e ≤ 16777215 * 2 ^ 7 := Nat.mul_le_mul (by omega) p7
        have hb0 : 1 * 1 ≤ fz_dg a * 2 ^ e := Nat.mul_le_mul (by have := da.2.1 (by omega); omega) (Nat.two_pow_pos e)
        have h37 := kz_37 (v := fz_dg a * 2 ^ e) s hw (by omega) (by omega) (Or.inr ⟨by omega, by rw [he]; rfl⟩)
        have hfz : fz (fz_dg a * 2 ^ e) 0 false = a := by
          cases e with
          | zero =>
            have := fz_exact (a := a) false ha
            rw [he] at this
            rw [Nat.pow_zero, Nat.mul_one]
            exact this
          | succ j =>
            have := fz_exactJ (a := a) (j := j + 1) false ha (by omega)
            rw [he, show ((j + 1 : Nat) : Int) - ((j + 1 : Nat) : Int) = 0 by omega] at this
            exact this
        rw [if_pos (by omega), kz_intR s ha2 (by omega) h37, if_neg (by omega), hfz]
        exact VR.num s ha
      · rw [if_neg (by omega)]
        have hpw : 8 ≤ fz_pw a := by
          unfold fz_pw
          rw [if_neg (by omega)]
          omega
        have hp := kz_powP s ha2
        have e22 : ¬ (kX8_intOf_47_z22 (fz_plc s a)).toInt = 0 := by
          unfold kX8_intOf_47_z22 kX8_intOf_47_z19
          rw [hw, hp]
          by_cases hi : a = 2139095040
          · rw [kz_inf1 s hi, if_neg (by decide)]
            decide
          · rw [kz_inf0 s ha2 hi, if_pos rfl, if_neg (by omega)]
            decide
        have hn := kz_plcNeg s ha2
        unfold kX8_intOf kX8_intOf_156_z60 kX8_intOf_125_z47 kX8_intOf_108_z42 kX8_intOf_149_z53 kX8_intOf_91_z37
        rw [if_neg (kz_plc9 s ha2), if_neg e22, kz_neg1 s ha2]
        cases s with
        | false =>
          rw [if_pos (hn.mpr rfl), if_neg (by decide), if_neg (by decide)]
          refine VR.to false (a := 1325400064) (by omega) rfl ?_
          exact (kz_pack (m := 2147483647) (ee := 0) false false (by omega) (by decide)).trans (congrArg (fz_plc false) (by decide +kernel))
        | true =>
          have hq : ¬ 0 ≤ (fz_plc true a).toInt := fun q => by cases hn.mp q
          rw [if_neg hq, if_neg (by decide), if_neg (by decide)]
          refine VR.to true (a := 1325400064) (by omega) rfl ?_
          exact (kz_pack (m := 2147483648) (ee := 0) true false (by omega) (by decide)).trans (congrArg (fz_plc true) (by decide +kernel))
