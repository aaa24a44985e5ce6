theorem kz_half32 (x : Int32) : (x / 2).toInt = if 0 ≤ x.toInt then x.toInt / 2 else -((-x.toInt) / 2) := by
  have hr := px_rng x
  rw [Int32.toInt_div, show (2 : Int32).toInt = 2 from by decide]
  by_cases h : 0 ≤ x.toInt
  · rw [if_pos h, Int.tdiv_eq_ediv_of_nonneg h, Int.bmod_eq_of_le] <;> omega
  · have e : x.toInt.tdiv 2 = -((-x.toInt) / 2) := by
      rw [← Int.tdiv_eq_ediv_of_nonneg (by omega), Int.neg_tdiv, Int.neg_neg]
    rw [if_neg h, e, Int.bmod_eq_of_le] <;> omega
theorem kz_rem32 (x : Int32) : (x - x / 2 * 2).toInt = 0 ↔ x.toInt % 2 = 0 := by
  have hr := px_rng x
  have h1 := kz_half32 x
  have c : (2 : Int32).toInt = 2 := by decide
  have h2 : (x / 2 * 2).toInt = (x / 2).toInt * 2 := by
    rw [Int32.toInt_mul, c, Int.bmod_eq_of_le] <;> (rw [h1]; split <;> omega)
  have h3 : (x - x / 2 * 2).toInt = x.toInt - (x / 2).toInt * 2 := by
    rw [px_isub (by rw [h2, h1]; split <;> omega) (by rw [h2, h1]; split <;> omega), h2]
  rw [h3, h1]
  split <;> omega
theorem kz_and1 (x : Int32) : (x &&& 1).toInt = x.toInt % 2 := by
  have h1 := px_nat x
  have h2 := x.toBitVec.isLt
  rw [pk_and x (m := 1) 1 (by decide), nI_toInt (by omega)]
  split at h1 <;> omega
set_option maxHeartbeats 4000000 in
theorem kz_l47 (g : Int64) : ∀ (fuel m : Nat) (ee : Int32), m ≠ 0 → m < 16777216 → -1000 ≤ ee.toInt - (61 - (Nat.log2 m : Int)) → ee.toInt ≤ 1000 → 8388609 - (m : Int) < fuel → 1 ≤ fuel → ∃ (E : Int32) (lift : Nat), E.toInt = ee.toInt - lift ∧ ((ee.toInt - (60 - (Nat.log2 m : Int))) % 2 = 0 ∧ lift = 60 - Nat.log2 m ∨ (ee.toInt - (60 - (Nat.log2 m : Int))) % 2 = 1 ∧ lift = 61 - Nat.log2 m) ∧ kX8_rootOf_l47 fuel g (lN m) ee = kX8_rootOf_l106 2147483650 g (lN (m * 2 ^ lift)) E 0 2147483648 := by
  have c37 : (37 : Int32).toInt = 37 := by decide
  have c38 : (38 : Int32).toInt = 38 := by decide
  have cm : (-1 : Int32).toInt = -1 := by decide
  intro fuel
  induction fuel with
  | zero => intro m ee _ _ _ _ _ h; exact absurd h (by omega)
  | succ fuel ih =>
    intro m ee h0 hm he1 he2 hf _
    have hl : Nat.log2 m ≤ 23 := fz_logle h0 (by omega)
    rw [kX8_rootOf_l47_S, pk_lT (by omega)]
    by_cases hc : (8388608 : Int) ≤ (m : Int)
    · have hl23 : Nat.log2 m = 23 := fz_log (by omega) (by omega)
      rw [if_pos hc, hl23]
      unfold kX8_rootOf_l47_84_z6
      have e37 : (ee - 37).toInt = ee.toInt - 37 := by rw [px_isub (by omega) (by omega), c37]
      have hz := kz_rem32 (ee - 37)
      rw [e37] at hz
      by_cases h : (ee.toInt - 37) % 2 = 0
      · rw [if_pos (hz.mpr h)]
        refine ⟨ee - 37, 37, e37, Or.inl ⟨by omega, rfl⟩, ?_⟩
        rw [show (37 : Int32).toInt64 &&& 63 = (nI 37).toInt64 &&& 63 from rfl, wb_shl _ (by omega)]
      · rw [if_neg (fun q => h (hz.mp q))]
        refine ⟨ee - 38, 38, ?_, Or.inr ⟨by omega, rfl⟩, ?_⟩
        · rw [px_isub (by omega) (by omega), c38]
          rfl
        · rw [show (38 : Int32).toInt64 &&& 63 = (nI 38).toInt64 &&& 63 from rfl, wb_shl _ (by omega)]
    · rw [if_neg hc]
      have he : (ee + (-1)).toInt = ee.toInt - 1 := by
        rw [px_iadd (by omega) (by omega), cm]
        omega
      have f1 : m * 2 ≠ 0 := by omega
      have f2 : m * 2 < 16777216 := by omega
      have f3 : -1000 ≤ (ee + (-1)).toInt - (61 - (Nat.log2 (m * 2) : Int)) := by
        rw [fz_logdbl h0, he]
        omega
      have f4 : (ee + (-1)).toInt ≤ 1000 := by omega
      have f5 : 8388609 - ((m * 2 : Nat) : Int) < fuel := by omega
      have f6 : 1 ≤ fuel := by omega
      have hl22 : Nat.log2 m ≤ 22 := fz_logle h0 (by omega)
      have hd := fz_logdbl h0
      obtain ⟨E, lift, q1, q2, q3⟩ := ih (m * 2) (ee + (-1)) f1 f2 f3 f4 f5 f6
      rw [he] at q1
      rw [hd, he] at q2
      clear hd
      refine ⟨E, lift + 1, by omega, by omega, ?_⟩
      rw [show (2 : Int64) = lN 2 from rfl, lN_mul, q3, Nat.mul_assoc, ← Nat.pow_succ']
set_option maxHeartbeats 4000000 in
theorem kv_root {a : Nat} (s : Bool) (ha : a ≤ 2139095040) : VR (kX0_root (fz_enc s a)) (kX8_rootOf (fz_plc s a)) := by
  have ha2 : a < 2147483648 := by omega
  have da := fz_dgB a
  have pa := fz_pwB a
  have nA := kz_plc9 s ha2
  have hiC := fz_encI s ha2
  have hiR := fz_plcI s ha2
  unfold kX0_root kX8_rootOf
  rw [fz_encMI s ha2, if_neg nA]
  by_cases a0 : a = 0
  · rw [if_pos (by omega), kz_zer1 s a0, if_pos (by rw [hiR, a0]; cases s <;> decide), if_neg (by decide)]
    exact VR.num s ha
  · rw [if_neg (by omega), kz_zer0 s ha2 a0, if_pos rfl]
    cases s with
    | true =>
      have hiC : (fz_enc true a).toInt = (a : Int) - 2147483648 := hiC
      have hiR : (fz_plc true a).toInt = -1 - (a : Int) := hiR
      rw [if_neg (by omega), if_neg (by omega), if_neg (by omega)]
      exact VR.none
    | false =>
      have hiC : (fz_enc false a).toInt = (a : Int) := hiC
      have hiR : (fz_plc false a).toInt = (a : Int) := hiR
      have hr1 : (-1 : Int) ≤ (fz_plc false a).toInt := by rw [hiR]; omega
      rw [if_pos hr1]
      by_cases ai : a = 2139095040
      · have hc1 : (fz_enc false a).toInt = 2139095040 := by rw [hiC]; omega
        rw [if_pos hc1, kz_inf1 false ai, if_neg (by decide)]
        exact VR.num false ha
      · have hda0 : fz_dg a ≠ 0 := fun q => a0 (da.2.2.2 q)
        have hl : Nat.log2 (fz_dg a) ≤ 23 := fz_logle hda0 (by omega)
        have hpa := kz_powP false ha2
        have hxa := kz_exp false ha2
        have hc1 : ¬ (fz_enc false a).toInt = 2139095040 := by rw [hiC]; omega
        have hc2 : 0 ≤ (fz_enc false a).toInt := by rw [hiC]; omega
        rw [if_neg hc1, if_pos hc2, kz_inf0 false ha2 ai, if_pos rfl, kz_digP false ha2]
        obtain ⟨E, lift, q1, q2, q3⟩ := kz_l47 (fz_plc false a) 8388610 (fz_dg a) (kX8_power (fz_plc false a)) hda0 da.1 (by omega) (by omega) (by omega) (by omega)
        rw [hpa] at q1 q2
        have hXb : 1152921504606846976 ≤ fz_dg a * 2 ^ lift ∧ fz_dg a * 2 ^ lift < 4611686018427387904 := by
          have b1 := fz_lo hda0
          have b2 := fz_hi hda0
          have hp := Nat.two_pow_pos lift
          have a1 : 2 ^ Nat.log2 (fz_dg a) * 2 ^ lift ≤ fz_dg a * 2 ^ lift := Nat.mul_le_mul_right _ b1
          have a2 : fz_dg a * 2 ^ lift < 2 ^ (Nat.log2 (fz_dg a) + 1) * 2 ^ lift := Nat.mul_lt_mul_of_pos_right b2 hp
          rw [← Nat.pow_add] at a1 a2
          have a3 : 2 ^ 60 ≤ 2 ^ (Nat.log2 (fz_dg a) + lift) := Nat.pow_le_pow_right (by decide) (by omega)
          have a4 : 2 ^ (Nat.log2 (fz_dg a) + 1 + lift) ≤ 2 ^ 62 := Nat.pow_le_pow_right (by decide) (by omega)
          omega
        have s33 : kX0_root_s33 (fz_enc false a) = nI (61 - Nat.log2 (fz_dg a)) := by
          unfold kX0_root_s33
          rw [kz_sig false ha2, kz_nlz2 hda0 da.1]
        have n33 : (nI (61 - Nat.log2 (fz_dg a))).toInt = 61 - (Nat.log2 (fz_dg a) : Int) := by
          rw [nI_toInt (by omega)]
          omega
        have e16 : kX0_root_49_z16 (fz_enc false a) = nI lift := by
          unfold kX0_root_49_z16
          rw [s33, kz_and1, px_isub (by omega) (by omega), hxa, n33]
          rcases q2 with ⟨r1, r2⟩ | ⟨r1, r2⟩
          · rw [if_pos (by omega), kz_m (k := 1) (by omega) (by omega) (-1) (by decide), r2]
            exact kz_nIc (by omega)
          · rw [if_neg (by omega), r2]
        have nlift : (nI lift).toInt = lift := nI_toInt (by omega)
        generalize hX : fz_dg a * 2 ^ lift = Q at hXb q3
        have s52 : kX0_root_s52 (fz_enc false a) = lN Q := by
          unfold kX0_root_s52
          rw [e16, kz_sig false ha2, wb_shl _ (by omega), hX]
        have hS31 : fz_SI Q 0 31 := ⟨by omega, by omega, by omega⟩
        obtain ⟨r, t1, t2⟩ := kz_l7 hXb.2 31 1073741825 0 (by omega) (by omega) hS31
        have s59 : kX0_root_s59 (fz_enc false a) = lN r := by
          unfold kX0_root_s59 kX0_rootDown
          rw [s52]
          exact t1
        obtain ⟨r', u1, u2⟩ := kz_l106 (fz_plc false a) (ee := E) hXb.2 31 2147483649 0 (by omega) (by omega) hS31
        have hrr : r = r' := fz_sqU t2.1 t2.2.1 u2.1 u2.2.1
        subst hrr
        have hr1 := t2.2.2
        have hr0 : 33554432 ≤ r := by
          apply Nat.le_of_not_lt
          intro h
          have := Nat.mul_le_mul (show r + 2 ^ 0 ≤ 33554432 by omega) (show r + 2 ^ 0 ≤ 33554432 by omega)
          have := t2.2.1
          omega
        have first : kX8_rootOf_l106 2147483650 (fz_plc false a) (lN Q) E 0 2147483648 = kX8_pack 0 (lN r) (E / 2) (fz_bI (decide (¬ r * r = Q))) := by
          rw [show (2147483650 : Nat) = 2147483649 + 1 from rfl, kX8_rootOf_l106_S, if_neg (by decide)]
          unfold kX8_rootOf_l106_137_z6
          rw [if_pos (by rw [pk_lT (by omega)]; show (Q : Int) < (4611686018427387904 : Int); omega)]
          exact u1
        have hE2 : (E / 2).toInt = E.toInt / 2 := by
          rw [kz_half32]
          split <;> omega
        have hsh : ((kX2_exponent (fz_enc false a) - nI lift) >>> ((1 : Int32) &&& 31)).toInt = E.toInt / 2 := by
          rw [pk_shr _ _ 1 (by decide), px_isub (by omega) (by omega), hxa, nlift, Int.shiftRight_eq_div_pow]
          omega
        rw [q3, first, e16]
        have rf : kX8_pack 0 (lN r) (E / 2) (fz_bI (decide (¬ r * r = Q))) = fz_plc false (fz r (E.toInt / 2) (decide (¬ r * r = Q))) := (kz_pack false _ (by omega) (by omega)).trans (by rw [hE2])
        rw [rf]
        unfold kX0_root_81_z24
        rw [s59, s52, kz_lsq (by omega), pk_lT (by omega)]
        by_cases hz : r * r = Q
        · rw [if_pos (by omega), kz_nearest _ (by omega) (by omega), hsh, decide_eq_false (fun q => q hz)]
          exact VR.num false (fz_B _ _ _)
        · obtain ⟨n', o1, o2, o3, o4⟩ := kz_or1 (n := r) (by omega)
          rw [if_neg (by omega), o1, kz_nearest _ o4 (by omega), hsh, fz_sticky hr0 o2 o3, decide_eq_true hz]
          exact VR.num false (fz_B _ _ _)
