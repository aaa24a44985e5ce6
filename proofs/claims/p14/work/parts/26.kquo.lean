/-! quotients -/
theorem fz_logdbl {m : Nat} (h0 : m ≠ 0) : Nat.log2 (m * 2) = Nat.log2 m + 1 := by
  have a1 := fz_lo h0
  have a2 := fz_hi h0
  exact fz_log (by rw [Nat.pow_succ]; omega) (by rw [Nat.pow_succ]; omega)
theorem fz_X {m : Nat} (h0 : m ≠ 0) (h : m < 16777216) : Nat.log2 m ≤ 23 ∧ 2305843009213693952 ≤ m * 2 ^ (61 - Nat.log2 m) ∧ m * 2 ^ (61 - Nat.log2 m) < 4611686018427387904 := by
  have hl : Nat.log2 m ≤ 23 := fz_logle h0 (by omega)
  have h1 := fz_lo h0
  have h2 := fz_hi h0
  generalize hk : 61 - Nat.log2 m = k
  have hp := Nat.two_pow_pos k
  refine ⟨hl, ?_, ?_⟩
  · have a1 : 2 ^ Nat.log2 m * 2 ^ k ≤ m * 2 ^ k := Nat.mul_le_mul_right _ h1
    rw [← Nat.pow_add, show Nat.log2 m + k = 61 by omega] at a1
    omega
  · have a1 : m * 2 ^ k < 2 ^ (Nat.log2 m + 1) * 2 ^ k := Nat.mul_lt_mul_of_pos_right h2 hp
    rw [← Nat.pow_add, show Nat.log2 m + 1 + k = 62 by omega] at a1
    omega
theorem kz_or1 {n : Nat} (h : n < 4611686018427387904) : ∃ n', lN n ||| 1 = lN n' ∧ n' / 2 = n / 2 ∧ n' % 2 = 1 ∧ n' < 9223372036854775808 := by
  refine ⟨n ||| 1, ?_, ?_, ?_, ?_⟩
  · rw [show (1 : Int64) = lN 1 from rfl, wb_or (by omega) (by omega)]
  · rw [Nat.or_div_two]
    simp
  · exact Nat.or_mod_two_eq_one.mpr (Or.inr rfl)
  · exact Nat.lt_trans (Nat.or_lt_two_pow (show n < 2 ^ 62 by omega) (show 1 < 2 ^ 62 by omega)) (by omega)
theorem kz_nlz2 {m : Nat} (h0 : m ≠ 0) (h : m < 16777216) : kJ13_numberOfLeadingZeros_95d88 (lN m) - 2 = nI (61 - Nat.log2 m) := by
  have hl := (fz_X h0 h).1
  rw [kz_nlz (by omega) (by omega), show (2 : Int32) = nI 2 from rfl, pk_sub (by omega)]
  exact kz_nIc (by omega)
set_option maxHeartbeats 4000000 in
theorem kz_l136 (g : Int64) (z t : Bool) {b : Nat} (hb0 : b ≠ 0) (hb : b < 2139095040) : ∀ (fuel m : Nat) (ee : Int32), m ≠ 0 → m < 16777216 → -1000 ≤ ee.toInt - (61 - (Nat.log2 m : Int)) → ee.toInt ≤ 1000 → 8388609 - (m : Int) < fuel → 1 ≤ fuel → kX8_byOf_l136 fuel g (fz_plc t b) (fz_bI z) (lN m) ee = fz_plc z (fz (m * 2 ^ (61 - Nat.log2 m) / fz_dg b) (ee.toInt - (61 - (Nat.log2 m : Int)) - fz_pw b) (decide (¬ m * 2 ^ (61 - Nat.log2 m) % fz_dg b = 0))) := by
  have hb2 : b < 2147483648 := by omega
  have db := fz_dgB b
  have pb := fz_pwB b
  have hd0 : fz_dg b ≠ 0 := fun q => hb0 (db.2.2.2 q)
  have c38 : (38 : Int32).toInt = 38 := by decide
  have cm : (-1 : Int32).toInt = -1 := by decide
  intro fuel
  induction fuel with
  | zero => intro m ee _ _ _ _ _ h; exact absurd h (by omega)
  | succ fuel ih =>
    intro m ee h0 hm he1 he2 hf _
    obtain ⟨hl, hX1, hX2⟩ := fz_X h0 hm
    rw [kX8_byOf_l136_S, pk_lT (by omega)]
    by_cases hc : (8388608 : Int) ≤ (m : Int)
    · rw [if_pos hc]
      have hl23 : Nat.log2 m = 23 := fz_log (by omega) (by omega)
      rw [hl23] at hX1 hX2 he1 ⊢
      have e170 : kX8_byOf_l136_s170 g (fz_plc t b) (fz_bI z) (lN m) ee = lN (m * 2 ^ (61 - 23)) := by
        unfold kX8_byOf_l136_s170
        rw [show (38 : Int32) = nI 38 from rfl, wb_shl _ (by omega)]
      have hX3 : m * 2 ^ (61 - 23) / fz_dg b ≤ m * 2 ^ (61 - 23) := Nat.div_le_self _ _
      have e12 : kX8_byOf_l136_204_z12 g (fz_plc t b) (fz_bI z) (lN m) ee = fz_bI (decide (¬ m * 2 ^ (61 - 23) % fz_dg b = 0)) := by
        unfold kX8_byOf_l136_204_z12
        have hml := Nat.mod_lt (m * 2 ^ (61 - 23)) (show 0 < fz_dg b by omega)
        rw [e170, kz_digP t hb2, pk_lRem (by omega) (by omega) (by omega), pk_lT (by omega)]
        by_cases hz : m * 2 ^ (61 - 23) % fz_dg b = 0
        · rw [if_pos (by omega), hz]
          rfl
        · rw [if_neg (by omega), decide_eq_true hz]
          rfl
      have hpw := kz_powP t hb2
      have e1 : (ee - 38).toInt = ee.toInt - 38 := by rw [px_isub (by omega) (by omega), c38]
      have e2 : ((ee - 38) - kX8_power (fz_plc t b)).toInt = ee.toInt - 38 - fz_pw b := by rw [px_isub (by omega) (by omega), e1, hpw]
      rw [e12, e170, kz_digP t hb2, pk_lDiv (by omega) (by omega) (by omega), kz_pack _ _ (by omega) (by omega), e2]
      rw [show ee.toInt - (61 - ((23 : Nat) : Int)) - fz_pw b = ee.toInt - 38 - fz_pw b by omega]
    · rw [if_neg hc]
      have he : (ee + (-1)).toInt = ee.toInt - 1 := by
        rw [px_iadd (by omega) (by omega), cm]
        omega
      clear hX1 hX2
      have f1 : m * 2 ≠ 0 := by omega
      have f2 : m * 2 < 16777216 := by omega
      have f3 : -1000 ≤ (ee + (-1)).toInt - (61 - (Nat.log2 (m * 2) : Int)) := by
        rw [fz_logdbl h0, he]
        omega
      have f4 : (ee + (-1)).toInt ≤ 1000 := by omega
      have f5 : 8388609 - ((m * 2 : Nat) : Int) < fuel := by omega
      have f6 : 1 ≤ fuel := by omega
      have hl22 : Nat.log2 m ≤ 22 := fz_logle h0 (by omega)
      have hd := fz_logdbl h0
      rw [show (2 : Int64) = lN 2 from rfl, lN_mul, ih (m * 2) (ee + (-1)) f1 f2 f3 f4 f5 f6, hd, he]
      clear hd
      have eX : m * 2 * 2 ^ (61 - (Nat.log2 m + 1)) = m * 2 ^ (61 - Nat.log2 m) := by
        rw [Nat.mul_assoc, ← Nat.pow_succ', show Nat.succ (61 - (Nat.log2 m + 1)) = 61 - Nat.log2 m by omega]
      rw [eX, show ee.toInt - 1 - (61 - ((Nat.log2 m + 1 : Nat) : Int)) - fz_pw b = ee.toInt - (61 - (Nat.log2 m : Int)) - fz_pw b by omega]
set_option maxHeartbeats 4000000 in
theorem kv_div {a b : Nat} (s t : Bool) (ha : a ≤ 2139095040) (hb : b ≤ 2139095040) : VR (kX0_quotient (fz_enc s a) (fz_enc t b)) (kX8_byOf (fz_plc s a) (fz_plc t b)) := by
  have ha2 : a < 2147483648 := by omega
  have hb2 : b < 2147483648 := by omega
  have da := fz_dgB a
  have db := fz_dgB b
  have pa := fz_pwB a
  have pb := fz_pwB b
  have sgn : kX8_byOf_78_z24 (fz_plc s a) (fz_plc t b) = fz_bI (s != t) := by
    unfold kX8_byOf_78_z24 kX8_byOf_59_z14 kX8_byOf_70_z19
    rw [kz_neg1 s ha2, kz_neg1 t hb2, kz_bne]
  have nA := eq_false (kz_plc9 s ha2)
  have nB := eq_false (kz_plc9 t hb2)
  have hsy : (kX2_significand (fz_enc t b) : Int64).toInt = ((fz_dg b : Nat) : Int) := by rw [kz_sig t hb2, pk_lT (by omega)]
  unfold kX0_quotient kX8_byOf
  rw [fz_encMI s ha2, fz_encMI t hb2, fz_encXS s t ha2 hb2, hsy, sgn, kz_topC, kz_topR, kz_zerR, fz_enc0 (s != t)]
  by_cases a0 : a = 0
  · have za := kz_zer1 s a0
    have ia := kz_inf0 s ha2 (by omega)
    have e1 : ((a : Int) = 0) = True := eq_true (by omega)
    have e2 : ((a : Int) = 2139095040) = False := eq_false (by omega)
    by_cases b0 : b = 0
    · have zb := kz_zer1 t b0
      have e3 : ((a : Int) = (b : Int)) = True := eq_true (by omega)
      simp only [nA, nB, za, ia, zb, e1, e2, e3, kz_t10, kz_t00, if_true, if_false]
      exact VR.none
    · have zb := kz_zer0 t hb2 b0
      have e3 : ((a : Int) = (b : Int)) = False := eq_false (by omega)
      have e4 : ((fz_dg b : Int) = 0) = False := eq_false (by omega)
      by_cases bi : b = 2139095040
      · have ib := kz_inf1 t bi
        simp only [nA, nB, za, ia, zb, ib, e1, e2, e3, e4, kz_t10, kz_t00, if_true, if_false]
        exact VR.num _ (by omega)
      · have ib := kz_inf0 t hb2 bi
        simp only [nA, nB, za, ia, zb, ib, e1, e2, e3, e4, kz_t10, kz_t00, if_true, if_false]
        exact VR.num _ (by omega)
  · have za := kz_zer0 s ha2 a0
    have e1 : ((a : Int) = 0) = False := eq_false (by omega)
    by_cases ai : a = 2139095040
    · have ia := kz_inf1 s ai
      have e2 : ((a : Int) = 2139095040) = True := eq_true (by omega)
      by_cases bi : b = 2139095040
      · have ib := kz_inf1 t bi
        have e3 : ((a : Int) = (b : Int)) = True := eq_true (by omega)
        simp only [nA, nB, za, ia, ib, e1, e2, e3, kz_t10, kz_t00, if_true, if_false]
        exact VR.none
      · have ib := kz_inf0 t hb2 bi
        have e3 : ((a : Int) = (b : Int)) = False := eq_false (by omega)
        by_cases b0 : b = 0
        · have zb := kz_zer1 t b0
          simp only [nA, nB, za, ia, zb, ib, e1, e2, e3, kz_t10, kz_t00, if_true, if_false]
          exact VR.num _ (by omega)
        · have zb := kz_zer0 t hb2 b0
          simp only [nA, nB, za, ia, zb, ib, e1, e2, e3, kz_t10, kz_t00, if_true, if_false]
          exact VR.num _ (by omega)
    · have ia := kz_inf0 s ha2 ai
      have e2 : ((a : Int) = 2139095040) = False := eq_false (by omega)
      by_cases b0 : b = 0
      · have zb := kz_zer1 t b0
        have ib := kz_inf0 t hb2 (by omega)
        have e3 : ((a : Int) = (b : Int)) = False := eq_false (by omega)
        have e4 : ((fz_dg b : Int) = 0) = True := eq_true (by rw [b0]; rfl)
        simp only [nA, nB, za, ia, zb, ib, e1, e2, e3, e4, kz_t10, kz_t00, if_true, if_false]
        exact VR.num _ (by omega)
      · have zb := kz_zer0 t hb2 b0
        have e4 : ((fz_dg b : Int) = 0) = False := eq_false (by omega)
        by_cases bi : b = 2139095040
        · have ib := kz_inf1 t bi
          have e5 : ((b : Int) = 2139095040) = True := eq_true (by omega)
          have e3 : ((a : Int) = (b : Int)) = False := eq_false (by omega)
          simp only [nA, nB, za, ia, zb, ib, e1, e2, e3, e4, e5, kz_t10, kz_t00, if_true, if_false]
          exact VR.num _ (by omega)
        · have ib := kz_inf0 t hb2 bi
          have e5 : ((b : Int) = 2139095040) = False := eq_false (by omega)
          have hda0 : fz_dg a ≠ 0 := fun q => a0 (da.2.2.2 q)
          have hdb0 : fz_dg b ≠ 0 := fun q => b0 (db.2.2.2 q)
          obtain ⟨hl, hX1, hX2⟩ := fz_X hda0 da.1
          have hpa := kz_powP s ha2
          have rf := kz_l136 (fz_plc s a) (s != t) t b0 (by omega) 8388610 (fz_dg a) (kX8_power (fz_plc s a)) hda0 da.1 (by omega) (by omega) (by omega) (by omega)
          have s87 : kX0_quotient_s87 (fz_enc s a) (fz_enc t b) = nI (61 - Nat.log2 (fz_dg a)) := by
            unfold kX0_quotient_s87
            rw [kz_sig s ha2, kz_nlz2 hda0 da.1]
          have s94 : kX0_quotient_s94 (fz_enc s a) (fz_enc t b) = lN (fz_dg a * 2 ^ (61 - Nat.log2 (fz_dg a))) := by
            unfold kX0_quotient_s94
            rw [s87, kz_sig s ha2, wb_shl _ (by omega)]
          have cf : kX2_nearest (fz_enc (s != t) 0) (kX0_quotient_123_z18 (fz_enc s a) (fz_enc t b)) ((kX2_exponent (fz_enc s a) - kX0_quotient_s87 (fz_enc s a) (fz_enc t b)) - kX2_exponent (fz_enc t b)) = fz_enc (s != t) (fz (fz_dg a * 2 ^ (61 - Nat.log2 (fz_dg a)) / fz_dg b) (fz_pw a - (61 - (Nat.log2 (fz_dg a) : Int)) - fz_pw b) (decide (¬ fz_dg a * 2 ^ (61 - Nat.log2 (fz_dg a)) % fz_dg b = 0))) := by
            have x1 := kz_exp s ha2
            have x2 := kz_exp t hb2
            have x3 : (nI (61 - Nat.log2 (fz_dg a))).toInt = 61 - (Nat.log2 (fz_dg a) : Int) := by
              rw [nI_toInt (by omega)]
              omega
            have x4 : (kX2_exponent (fz_enc s a) - nI (61 - Nat.log2 (fz_dg a))).toInt = fz_pw a - (61 - (Nat.log2 (fz_dg a) : Int)) := by rw [px_isub (by omega) (by omega), x1, x3]
            have x5 : ((kX2_exponent (fz_enc s a) - nI (61 - Nat.log2 (fz_dg a))) - kX2_exponent (fz_enc t b)).toInt = fz_pw a - (61 - (Nat.log2 (fz_dg a) : Int)) - fz_pw b := by rw [px_isub (by omega) (by omega), x4, x2]
            generalize fz_dg a * 2 ^ (61 - Nat.log2 (fz_dg a)) = X at hX1 hX2 s94
            have s101 : kX0_quotient_s101 (fz_enc s a) (fz_enc t b) = lN (X / fz_dg b) := by
              unfold kX0_quotient_s101
              rw [s94, kz_sig t hb2, pk_lDiv (by omega) (by omega) (by omega)]
            have hq : X / fz_dg b ≤ X := Nat.div_le_self _ _
            have hq2 : 33554432 ≤ X / fz_dg b := by
              rw [Nat.le_div_iff_mul_le (by omega)]
              have : 33554432 * fz_dg b ≤ 33554432 * 16777216 := Nat.mul_le_mul_left _ (by omega)
              omega
            have hdm := Nat.div_add_mod X (fz_dg b)
            have hmm : fz_dg b * (X / fz_dg b) = X / fz_dg b * fz_dg b := Nat.mul_comm _ _
            unfold kX0_quotient_123_z18
            rw [s101, s94, s87, kz_sig t hb2, lN_mul, pk_lT (by omega), pk_lT (by omega), ← fz_enc0]
            by_cases hz : X % fz_dg b = 0
            · rw [if_pos (by omega), hz, kz_nearest _ (by omega) (by omega), x5]
              rfl
            · obtain ⟨n', o1, o2, o3, o4⟩ := kz_or1 (n := X / fz_dg b) (by omega)
              rw [if_neg (by omega), decide_eq_true hz, o1, kz_nearest _ o4 (by omega), x5, fz_sticky hq2 o2 o3]
              rfl
          rw [cf, kz_digP s ha2, rf, hpa]
          by_cases eq : a = b
          · have e3 : ((a : Int) = (b : Int)) = True := eq_true (by omega)
            simp only [nA, nB, za, ia, zb, ib, e1, e2, e3, e4, e5, kz_t10, kz_t00, if_true, if_false]
            exact VR.num _ (fz_B _ _ _)
          · have e3 : ((a : Int) = (b : Int)) = False := eq_false (by omega)
            simp only [nA, nB, za, ia, zb, ib, e1, e2, e3, e4, e5, kz_t10, kz_t00, if_true, if_false]
            exact VR.num _ (fz_B _ _ _)
