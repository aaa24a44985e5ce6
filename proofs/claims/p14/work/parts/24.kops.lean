/-! the class's VALUE (bits) and the reference's (a PLACE): what belongs together -/
def VR (x : Int32) (p : Int64) : Prop := (∃ s a, a ≤ 2139095040 ∧ x = fz_enc s a ∧ p = fz_plc s a) ∨ (x = 2143289344 ∧ p = 9000000000)
theorem VR.num (s : Bool) {a : Nat} (h : a ≤ 2139095040) : VR (fz_enc s a) (fz_plc s a) := Or.inl ⟨s, a, h, rfl, rfl⟩
theorem VR.none : VR 2143289344 9000000000 := Or.inr ⟨rfl, rfl⟩
theorem VR.to {x : Int32} {p : Int64} (s : Bool) {a : Nat} (h : a ≤ 2139095040) (hx : x = fz_enc s a) (hp : p = fz_plc s a) : VR x p := Or.inl ⟨s, a, h, hx, hp⟩
theorem kz_sar {n k : Nat} (hn : n < 4611686018427387904) (hk : k < 64) : lN n >>> ((nI k).toInt64 &&& 63) = lN (n / 2 ^ k) := by
  rw [wb_c k hk]
  have hd : n / 2 ^ k ≤ n := Nat.div_le_self _ _
  have hD : ((lN k).toBitVec.smod 64).toNat = k := by
    rw [wb_tb, wb_sm k hk, BitVec.toNat_ofNat, Nat.mod_eq_of_lt (by omega)]
  apply Int64.toInt_inj.mp
  have e : (lN n >>> lN k).toInt = (lN n).toInt >>> ((lN k).toBitVec.smod 64).toNat := BitVec.toInt_sshiftRight ..
  rw [hD] at e
  rw [e, Int.shiftRight_eq_div_pow, pk_lT (by omega), pk_lT (by omega)]
  rfl
theorem kz_topC (s : Bool) : fz_sg s ||| 2139095040 = fz_enc s 2139095040 := rfl
theorem kz_topR (s : Bool) : kX8_placeOf (fz_bI s) 2139095040 = fz_plc s 2139095040 := kz_place (a := 2139095040) s
theorem kz_zerR (s : Bool) : kX8_placeOf (fz_bI s) 0 = fz_plc s 0 := kz_place (a := 0) s
theorem kz_t10 : ((1 : Int) = 0) = False := eq_false (by decide)
theorem kz_t00 : ((0 : Int) = 0) = True := eq_true rfl
theorem kz_inf1 {a : Nat} (s : Bool) (h : a = 2139095040) : (kX8_isInfinite (fz_plc s a)).toInt = 1 := by rw [kz_infP s (by omega), if_pos h]
theorem kz_inf0 {a : Nat} (s : Bool) (h0 : a < 2147483648) (h : ¬ a = 2139095040) : (kX8_isInfinite (fz_plc s a)).toInt = 0 := by rw [kz_infP s h0, if_neg h]
theorem kz_zer1 {a : Nat} (s : Bool) (h : a = 0) : (kX8_isZero (fz_plc s a)).toInt = 1 := by rw [kz_zerP s (by omega), if_pos h]
theorem kz_zer0 {a : Nat} (s : Bool) (h0 : a < 2147483648) (h : ¬ a = 0) : (kX8_isZero (fz_plc s a)).toInt = 0 := by rw [kz_zerP s h0, if_neg h]
theorem kz_neg1 {a : Nat} (s : Bool) (h : a < 2147483648) : (if 0 ≤ (fz_plc s a).toInt then (0 : Int32) else 1) = fz_bI s := by
  have := kz_plcNeg s h
  cases s with
  | false => rw [if_pos (this.mpr rfl)]; rfl
  | true => rw [if_neg (fun q => by cases this.mp q)]; rfl
theorem kz_bne (s t : Bool) : (if (fz_bI s).toInt = (fz_bI t).toInt then (0 : Int32) else 1) = fz_bI (s != t) := by cases s <;> cases t <;> decide
theorem kz_expA {a b : Nat} (s t : Bool) (ha : a ≤ 2139095040) (hb : b ≤ 2139095040) : (kX2_exponent (fz_enc s a) + kX2_exponent (fz_enc t b)).toInt = fz_pw a + fz_pw b := by
  have pa := fz_pwB a
  have pb := fz_pwB b
  have h1 := kz_exp s (show a < 2147483648 by omega)
  have h2 := kz_exp t (show b < 2147483648 by omega)
  rw [px_iadd (by omega) (by omega), h1, h2]
theorem kz_expS {a b : Nat} (s t : Bool) (ha : a ≤ 2139095040) (hb : b ≤ 2139095040) : (kX2_exponent (fz_enc s a) - kX2_exponent (fz_enc t b)).toInt = fz_pw a - fz_pw b := by
  have pa := fz_pwB a
  have pb := fz_pwB b
  have h1 := kz_exp s (show a < 2147483648 by omega)
  have h2 := kz_exp t (show b < 2147483648 by omega)
  rw [px_isub (by omega) (by omega), h1, h2]
theorem kz_powA {a b : Nat} (s t : Bool) (ha : a ≤ 2139095040) (hb : b ≤ 2139095040) : (kX8_power (fz_plc s a) + kX8_power (fz_plc t b)).toInt = fz_pw a + fz_pw b := by
  have pa := fz_pwB a
  have pb := fz_pwB b
  have h1 := kz_powP s (show a < 2147483648 by omega)
  have h2 := kz_powP t (show b < 2147483648 by omega)
  rw [px_iadd (by omega) (by omega), h1, h2]
theorem kz_powS {a b : Nat} (s t : Bool) (ha : a ≤ 2139095040) (hb : b ≤ 2139095040) : (kX8_power (fz_plc s a) - kX8_power (fz_plc t b)).toInt = fz_pw a - fz_pw b := by
  have pa := fz_pwB a
  have pb := fz_pwB b
  have h1 := kz_powP s (show a < 2147483648 by omega)
  have h2 := kz_powP t (show b < 2147483648 by omega)
  rw [px_isub (by omega) (by omega), h1, h2]
/-! products -/
theorem kv_mul {a b : Nat} (s t : Bool) (ha : a ≤ 2139095040) (hb : b ≤ 2139095040) : VR (kX0_product (fz_enc s a) (fz_enc t b)) (kX8_timesOf (fz_plc s a) (fz_plc t b)) := by
  have ha2 : a < 2147483648 := by omega
  have hb2 : b < 2147483648 := by omega
  have da := fz_dgB a
  have db := fz_dgB b
  have pa := fz_pwB a
  have pb := fz_pwB b
  have hmul : fz_dg a * fz_dg b ≤ 16777215 * 16777215 := Nat.mul_le_mul (by omega) (by omega)
  have sgn : kX8_timesOf_78_z24 (fz_plc s a) (fz_plc t b) = fz_bI (s != t) := by
    unfold kX8_timesOf_78_z24 kX8_timesOf_59_z14 kX8_timesOf_70_z19
    rw [kz_neg1 s ha2, kz_neg1 t hb2, kz_bne]
  have cf : kX2_nearest (fz_sg (s != t)) (kX0_product_s59 (fz_enc s a) (fz_enc t b)) (kX2_exponent (fz_enc s a) + kX2_exponent (fz_enc t b)) = fz_enc (s != t) (fz (fz_dg a * fz_dg b) (fz_pw a + fz_pw b) false) := by
    unfold kX0_product_s59
    have he := kz_expA s t ha hb
    rw [kz_sig s ha2, kz_sig t hb2, lN_mul, kz_nearest _ (by omega) (by omega), he]
    rfl
  have rf : kX8_pack (fz_bI (s != t)) (kX8_digits (fz_plc s a) * kX8_digits (fz_plc t b)) (kX8_power (fz_plc s a) + kX8_power (fz_plc t b)) 0 = fz_plc (s != t) (fz (fz_dg a * fz_dg b) (fz_pw a + fz_pw b) false) := by
    have he := kz_powA s t ha hb
    rw [kz_digP s ha2, kz_digP t hb2, lN_mul]
    exact (kz_pack (s != t) false (by omega) (by omega)).trans (by rw [he])
  have nA := eq_false (kz_plc9 s ha2)
  have nB := eq_false (kz_plc9 t hb2)
  unfold kX0_product kX0_product_49_z10 kX0_product_49_z7 kX8_timesOf
  rw [fz_encMI s ha2, fz_encMI t hb2, fz_encXS s t ha2 hb2, sgn, cf, rf, kz_topC, kz_topR]
  by_cases h1 : a = 2139095040
  · have i1 := kz_inf1 s h1
    have z1 := kz_zer0 s ha2 (by omega)
    have e1 : ((a : Int) = 2139095040) = True := eq_true (by omega)
    have e2 : ((a : Int) = 0) = False := eq_false (by omega)
    by_cases h2 : b = 0
    · have z2 := kz_zer1 t h2
      have i2 := kz_inf0 t hb2 (by omega)
      have e3 : ((b : Int) = 0) = True := eq_true (by omega)
      simp only [nA, nB, i1, i2, z1, z2, e1, e2, e3, kz_t10, kz_t00, if_true, if_false]
      exact VR.none
    · have z2 := kz_zer0 t hb2 h2
      have e3 : ((b : Int) = 0) = False := eq_false (by omega)
      by_cases h3 : b = 2139095040
      · have i2 := kz_inf1 t h3
        simp only [nA, nB, i1, i2, z1, z2, e1, e2, e3, kz_t10, kz_t00, if_true, if_false]
        exact VR.num _ (by omega)
      · have i2 := kz_inf0 t hb2 h3
        simp only [nA, nB, i1, i2, z1, z2, e1, e2, e3, kz_t10, kz_t00, if_true, if_false]
        exact VR.num _ (by omega)
  · have i1 := kz_inf0 s ha2 h1
    have e1 : ((a : Int) = 2139095040) = False := eq_false (by omega)
    by_cases h3 : b = 2139095040
    · have i2 := kz_inf1 t h3
      have z2 := kz_zer0 t hb2 (by omega)
      have e3 : ((b : Int) = 2139095040) = True := eq_true (by omega)
      have e4 : ((b : Int) = 0) = False := eq_false (by omega)
      by_cases h4 : a = 0
      · have z1 := kz_zer1 s h4
        have e2 : ((a : Int) = 0) = True := eq_true (by omega)
        simp only [nA, nB, i1, i2, z1, z2, e1, e2, e3, e4, kz_t10, kz_t00, if_true, if_false]
        exact VR.none
      · have z1 := kz_zer0 s ha2 h4
        have e2 : ((a : Int) = 0) = False := eq_false (by omega)
        simp only [nA, nB, i1, i2, z1, z2, e1, e2, e3, e4, kz_t10, kz_t00, if_true, if_false]
        exact VR.num _ (by omega)
    · have i2 := kz_inf0 t hb2 h3
      have e3 : ((b : Int) = 2139095040) = False := eq_false (by omega)
      by_cases h4 : a = 0
      · have z1 := kz_zer1 s h4
        simp only [nA, nB, i1, i2, z1, e1, e3, kz_t10, kz_t00, if_true, if_false]
        exact VR.num _ (fz_B _ _ _)
      · have z1 := kz_zer0 s ha2 h4
        simp only [nA, nB, i1, i2, z1, e1, e3, kz_t10, kz_t00, if_true, if_false]
        exact VR.num _ (fz_B _ _ _)
/-! sums: what belongs to the big one and the small one -/
def fz_sum (s : Bool) (a : Nat) (t : Bool) (b : Nat) (e : Int) : Bool × Nat := if s = t then (s, fz (a + b) e false) else if a = b then (false, 0) else if b < a then (s, fz (a - b) e false) else (t, fz (b - a) e false)
theorem kz_modD {B D : Nat} (hB : B < 16777216) (hD : 40 < D) : B / 2 ^ D = 0 ∧ B % 2 ^ D = B := by
  have : 2 ^ 40 ≤ 2 ^ D := Nat.pow_le_pow_right (by decide) (by omega)
  have h : B < 2 ^ D := by omega
  exact ⟨Nat.div_eq_of_lt h, Nat.mod_eq_of_lt h⟩
def fz_mo (B D : Nat) : Bool := decide (¬ B % 2 ^ D = 0)
theorem kv_plusP {g q : Int64} {A B : Nat} {s t : Bool} (hA : A < 2139095040) (hB : B < 2139095040) (hg : kX8_plus_89_z65 g q = fz_plc s A) (hq : kX8_plus_107_z76 g q = fz_plc t B) (hp : fz_pw B ≤ fz_pw A) :
    ∃ up down : Nat, (up = (fz_pw A - fz_pw B).toNat ∧ down = 0 ∧ up ≤ 38 ∨ up = 38 ∧ (fz_pw A - fz_pw B).toNat = 38 + down ∧ 0 < down) ∧ kX8_plus_s146 g q = lN (fz_dg A * 2 ^ up) ∧ (kX8_plus_s156 g q).toInt = fz_pw A - up ∧ kX8_plus_184_z101 g q = lN (fz_dg B / 2 ^ down) ∧ kX8_plus_230_z122 g q = fz_bI (fz_mo (fz_dg B) down) ∧ kX8_plus_244_z127 g q = fz_bI s ∧ kX8_plus_256_z132 g q = fz_bI t := by
  have hA2 : A < 2147483648 := by omega
  have hB2 : B < 2147483648 := by omega
  have pa := fz_pwB A
  have pb := fz_pwB B
  have da := fz_dgB A
  have db := fz_dgB B
  have c38 : (38 : Int32).toInt = 38 := by decide
  have d120 : (kX8_plus_s120 g q).toInt = fz_pw A - fz_pw B := by
    unfold kX8_plus_s120
    rw [hg, hq, kz_powS s t (by omega) (by omega)]
  obtain ⟨D, hD⟩ : ∃ D : Nat, fz_pw A - fz_pw B = D := ⟨(fz_pw A - fz_pw B).toNat, by omega⟩
  have hup : ∃ up down : Nat, (up = (fz_pw A - fz_pw B).toNat ∧ down = 0 ∧ up ≤ 38 ∨ up = 38 ∧ (fz_pw A - fz_pw B).toNat = 38 + down ∧ 0 < down) ∧ kX8_plus_136_z87 g q = nI up ∧ kX8_plus_s163 g q = nI down := by
    unfold kX8_plus_s163 kX8_plus_136_z87
    rw [d120]
    have e120 : kX8_plus_s120 g q = nI D := kz_nIeq (by omega)
    by_cases h : (38 : Int) ≤ fz_pw A - fz_pw B
    · rw [if_pos h]
      by_cases h38 : D = 38
      · refine ⟨38, 0, Or.inl ⟨by omega, rfl, by omega⟩, rfl, ?_⟩
        rw [e120, h38]
        decide
      · refine ⟨38, D - 38, Or.inr ⟨rfl, by omega, by omega⟩, rfl, ?_⟩
        rw [e120, show (38 : Int32) = nI 38 from rfl, pk_sub (by omega)]
    · rw [if_neg h]
      refine ⟨D, 0, Or.inl ⟨by omega, rfl, by omega⟩, e120, ?_⟩
      rw [e120, pk_sub (by omega), Nat.sub_self]
  obtain ⟨up, down, hud, e87, e163⟩ := hup
  have hd300 : down < 300 := by omega
  refine ⟨up, down, hud, ?_, ?_, ?_, ?_, ?_, ?_⟩
  · unfold kX8_plus_s146
    rw [hg, e87, kz_digP s hA2, wb_shl _ (by omega)]
  · unfold kX8_plus_s156
    have h1 := kz_powP s hA2
    rw [hg, e87, px_isub (by rw [nI_toInt (by omega)]; omega) (by rw [nI_toInt (by omega)]; omega), nI_toInt (by omega), h1]
  · unfold kX8_plus_184_z101
    rw [e163, hq, kz_digP t hB2, nI_toInt (by omega)]
    by_cases h : (down : Int) ≤ 40
    · rw [if_pos h, kz_sar (by omega) (by omega)]
    · rw [if_neg h, (kz_modD db.1 (by omega)).1]
      rfl
  · unfold kX8_plus_230_z122 kX8_plus_230_z110 kX8_plus_230_z119 kX8_plus_184_z101
    rw [e163, hq, kz_digP t hB2, nI_toInt (by omega), pk_lT (by omega)]
    unfold fz_mo
    by_cases h : (down : Int) ≤ 40
    · have hp0 := Nat.two_pow_pos down
      have hdm := Nat.div_add_mod (fz_dg B) (2 ^ down)
      have hml := Nat.mul_div_le (fz_dg B) (2 ^ down)
      rw [if_pos h, if_pos h, kz_sar (by omega) (by omega), wb_shl _ (by omega), Nat.mul_comm, pk_lT (by omega)]
      by_cases hz : fz_dg B % 2 ^ down = 0
      · rw [if_pos (by omega), hz]
        rfl
      · rw [if_neg (by omega), decide_eq_true hz]
        rfl
    · rw [if_neg h, (kz_modD db.1 (by omega)).2]
      by_cases hz : fz_dg B = 0
      · rw [if_pos (by omega), hz]
        rfl
      · rw [if_neg (by omega), decide_eq_true hz]
        rfl
  · unfold kX8_plus_244_z127
    rw [hg, kz_neg1 s hA2]
  · unfold kX8_plus_256_z132
    rw [hq, kz_neg1 t hB2]
