def VN (x : Int32) (p : Int64) : Prop := ∃ s a, a ≤ 2139095040 ∧ x = fz_enc s a ∧ p = fz_plc s a
theorem VN.num (s : Bool) {a : Nat} (h : a ≤ 2139095040) : VN (fz_enc s a) (fz_plc s a) := ⟨s, a, h, rfl, rfl⟩
theorem VN.isNone {x : Int32} {p : Int64} (h : VN x p) : (kX2_isNone x).toInt = 0 := by
  obtain ⟨s, a, ha, rfl, rfl⟩ := h
  exact kz_isNoneN s ha
theorem VR.place {x : Int32} {p : Int64} (h : VR x p) (hn : (kX2_isNone x).toInt = 0) : p = (kX2_placeOf x).toInt64 ∧ -2139095041 ≤ (kX2_placeOf x).toInt ∧ (kX2_placeOf x).toInt ≤ 2139095040 ∧ ¬ p.toInt = 9000000000 := by
  rcases h with ⟨s, a, ha, rfl, rfl⟩ | ⟨rfl, rfl⟩
  · have hp := kz_placeC s (show a < 2147483648 by omega)
    have hi := fz_plcI s (show a < 2147483648 by omega)
    refine ⟨Int64.toInt_inj.mp (by rw [Int32.toInt_toInt64, hp]), ?_, ?_, kz_plc9 s (by omega)⟩
    · rw [hp, hi]
      cases s <;> simp <;> omega
    · rw [hp, hi]
      cases s <;> simp <;> omega
  · exact absurd hn kz_isNone9
theorem VR.isNone1 {x : Int32} {p : Int64} (h : VR x p) (hn : ¬ (kX2_isNone x).toInt = 0) : x = 2143289344 ∧ p = 9000000000 := by
  rcases h with ⟨s, a, ha, rfl, rfl⟩ | h
  · exact absurd (kz_isNoneN s ha) hn
  · exact h
set_option maxHeartbeats 4000000 in
theorem kv_rootN {a : Nat} (s : Bool) (ha : a ≤ 2139095040) (hs : s = false ∨ a = 0) : VN (kX0_root (fz_enc s a)) (kX8_rootOf (fz_plc s a)) := by
  have ha2 : a < 2147483648 := by omega
  have da := fz_dgB a
  have pa := fz_pwB a
  have nA := kz_plc9 s ha2
  have hiC := fz_encI s ha2
  have hiR := fz_plcI s ha2
  unfold kX0_root kX8_rootOf
  rw [fz_encMI s ha2, if_neg nA]
  by_cases a0 : a = 0
  · rw [if_pos (by omega), kz_zer1 s a0, if_pos (by rw [hiR, a0]; cases s <;> decide), if_neg (by decide)]
    exact VN.num s ha
  · rw [if_neg (by omega), kz_zer0 s ha2 a0, if_pos rfl]
    cases s with
    | true => exact absurd hs (by simp [a0])
    | false =>
      have hiC : (fz_enc false a).toInt = (a : Int) := hiC
      have hiR : (fz_plc false a).toInt = (a : Int) := hiR
      have hr1 : (-1 : Int) ≤ (fz_plc false a).toInt := by rw [hiR]; omega
      rw [if_pos hr1]
      by_cases ai : a = 2139095040
      · have hc1 : (fz_enc false a).toInt = 2139095040 := by rw [hiC]; omega
        rw [if_pos hc1, kz_inf1 false ai, if_neg (by decide)]
        exact VN.num false ha
      · have hda0 : fz_dg a ≠ 0 := fun q => a0 (da.2.2.2 q)
        have hl : Nat.log2 (fz_dg a) ≤ 23 := fz_logle hda0 (by omega)
        have hpa := kz_powP false ha2
        have hxa := kz_exp false ha2
        have hc1 : ¬ (fz_enc false a).toInt = 2139095040 := by rw [hiC]; omega
        have hc2 : 0 ≤ (fz_enc false a).toInt := by rw [hiC]; omega
        rw [if_neg hc1, if_pos hc2, kz_inf0 false ha2 ai, if_pos rfl, kz_digP false ha2]
        obtain ⟨E, lift, q1, q2, q3⟩ := kz_l47 (fz_plc false a) 8388610 (fz_dg a) (kX8_power (fz_plc false a)) hda0 da.1 (by omega) (by omega) (by omega) (by omega)
        rw [hpa] at q1 q2
        have hXb : 1152921504606846976 ≤ fz_dg a * 2 ^ lift ∧ fz_dg a * 2 ^ lift < 4611686018427387904 := by
          have b1 := fz_lo hda0
          have b2 := fz_hi hda0
          have hp := Nat.two_pow_pos lift
          have a1 : 2 ^ Nat.log2 (fz_dg a) * 2 ^ lift ≤ fz_dg a * 2 ^ lift := Nat.mul_le_mul_right _ b1
          have a2 : fz_dg a * 2 ^ lift < 2 ^ (Nat.log2 (fz_dg a) + 1) * 2 ^ lift := Nat.mul_lt_mul_of_pos_right b2 hp
          rw [← Nat.pow_add] at a1 a2
          have a3 : 2 ^ 60 ≤ 2 ^ (Nat.log2 (fz_dg a) + lift) := Nat.pow_le_pow_right (by decide) (by omega)
          have a4 : 2 ^ (Nat.log2 (fz_dg a) + 1 + lift) ≤ 2 ^ 62 := Nat.pow_le_pow_right (by decide) (by omega)
          omega
        have s33 : kX0_root_s33 (fz_enc false a) = nI (61 - Nat.log2 (fz_dg a)) := by
          unfold kX0_root_s33
          rw [kz_sig false ha2, kz_nlz2 hda0 da.1]
        have n33 : (nI (61 - Nat.log2 (fz_dg a))).toInt = 61 - (Nat.log2 (fz_dg a) : Int) := by
          rw [nI_toInt (by omega)]
          omega
        have e16 : kX0_root_49_z16 (fz_enc false a) = nI lift := by
          unfold kX0_root_49_z16
          rw [s33, kz_and1, px_isub (by omega) (by omega), hxa, n33]
          rcases q2 with ⟨r1, r2⟩ | ⟨r1, r2⟩
          · rw [if_pos (by omega), kz_m (k := 1) (by omega) (by omega) (-1) (by decide), r2]
            exact kz_nIc (by omega)
          · rw [if_neg (by omega), r2]
        have nlift : (nI lift).toInt = lift := nI_toInt (by omega)
        generalize hX : fz_dg a * 2 ^ lift = Q at hXb q3
        have s52 : kX0_root_s52 (fz_enc false a) = lN Q := by
          unfold kX0_root_s52
          rw [e16, kz_sig false ha2, wb_shl _ (by omega), hX]
        have hS31 : fz_SI Q 0 31 := ⟨by omega, by omega, by omega⟩
        obtain ⟨r, t1, t2⟩ := kz_l7 hXb.2 31 1073741825 0 (by omega) (by omega) hS31
        have s59 : kX0_root_s59 (fz_enc false a) = lN r := by
          unfold kX0_root_s59 kX0_rootDown
          rw [s52]
          exact t1
        obtain ⟨r', u1, u2⟩ := kz_l106 (fz_plc false a) (ee := E) hXb.2 31 2147483649 0 (by omega) (by omega) hS31
        have hrr : r = r' := fz_sqU t2.1 t2.2.1 u2.1 u2.2.1
        subst hrr
        have hr1 := t2.2.2
        have hr0 : 33554432 ≤ r := by
          apply Nat.le_of_not_lt
          intro h
          have := Nat.mul_le_mul (show r + 2 ^ 0 ≤ 33554432 by omega) (show r + 2 ^ 0 ≤ 33554432 by omega)
          have := t2.2.1
          omega
        have first : kX8_rootOf_l106 2147483650 (fz_plc false a) (lN Q) E 0 2147483648 = kX8_pack 0 (lN r) (E / 2) (fz_bI (decide (¬ r * r = Q))) := by
          rw [show (2147483650 : Nat) = 2147483649 + 1 from rfl, kX8_rootOf_l106_S, if_neg (by decide)]
          unfold kX8_rootOf_l106_137_z6
          rw [if_pos (by rw [pk_lT (by omega)]; show (Q : Int) < (4611686018427387904 : Int); omega)]
          exact u1
        have hE2 : (E / 2).toInt = E.toInt / 2 := by
          rw [kz_half32]
          split <;> omega
        have hsh : ((kX2_exponent (fz_enc false a) - nI lift) >>> ((1 : Int32) &&& 31)).toInt = E.toInt / 2 := by
          rw [pk_shr _ _ 1 (by decide), px_isub (by omega) (by omega), hxa, nlift, Int.shiftRight_eq_div_pow]
          omega
        rw [q3, first, e16]
        have rf : kX8_pack 0 (lN r) (E / 2) (fz_bI (decide (¬ r * r = Q))) = fz_plc false (fz r (E.toInt / 2) (decide (¬ r * r = Q))) := (kz_pack false _ (by omega) (by omega)).trans (by rw [hE2])
        rw [rf]
        unfold kX0_root_81_z24
        rw [s59, s52, kz_lsq (by omega), pk_lT (by omega)]
        by_cases hz : r * r = Q
        · rw [if_pos (by omega), kz_nearest _ (by omega) (by omega), hsh, decide_eq_false (fun q => q hz)]
          exact VN.num false (fz_B _ _ _)
        · obtain ⟨n', o1, o2, o3, o4⟩ := kz_or1 (n := r) (by omega)
          rw [if_neg (by omega), o1, kz_nearest _ o4 (by omega), hsh, fz_sticky hr0 o2 o3, decide_eq_true hz]
          exact VN.num false (fz_B _ _ _)
theorem kn_int {a : Nat} (s : Bool) (ha : a ≤ 2139095040) : (kX2_isNone (kX0_asInt (fz_sg s) (nI a))).toInt = 0 := by
  have ha2 : a < 2147483648 := by omega
  unfold kX0_asInt kX0_asInt_24_z8
  rw [nI_toInt ha2, kz_cut ha2]
  by_cases h1 : (1065353216 : Int) ≤ (a : Int)
  · rw [if_pos h1]
    by_cases h2 : (a : Int) < 1325400064
    · rw [if_pos h2]
      refine kz_isNoneN s (a := fz_cut a) ?_
      unfold fz_cut
      split
      · omega
      · split
        · have := Nat.div_mul_le_self a (2 ^ (150 - a / 8388608))
          omega
        · omega
    · rw [if_neg h2]
      exact kz_isNoneN s (a := 1325400064) (by omega)
  · rw [if_neg h1]
    exact kz_isNoneN false (a := 0) (by omega)
