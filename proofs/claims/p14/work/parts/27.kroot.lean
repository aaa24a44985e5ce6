/-! remainders -/
theorem kz_mm (a b n : Nat) : a % n * b % n = a * b % n := by rw [Nat.mul_mod, Nat.mod_mod, ← Nat.mul_mod]
set_option maxHeartbeats 4000000 in
theorem kz_l59 (x y un : Int32) {n : Nat} (hn0 : n ≠ 0) (hn : n < 16777216) : ∀ (fuel r : Nat) (lf : Int32), r < n → lf.toInt ≤ 1000 → -1000 ≤ lf.toInt → lf.toInt < fuel → 1 ≤ fuel → kX0_remainder_l59 fuel x y (lN n) un (lN r) lf = kX2_nearest (x &&& (-2147483648)) (lN (r * 2 ^ lf.toInt.toNat % n)) un := by
  have c38 : (38 : Int32).toInt = 38 := by decide
  have cm : (-38 : Int32).toInt = -38 := by decide
  intro fuel
  induction fuel with
  | zero => intro r lf _ _ _ _ h; exact absurd h (by omega)
  | succ fuel ih =>
    intro r lf hr h1 h2 hf _
    rw [kX0_remainder_l59_S]
    by_cases hc : lf.toInt ≤ 0
    · rw [if_pos hc, show lf.toInt.toNat = 0 by omega, Nat.pow_zero, Nat.mul_one, Nat.mod_eq_of_lt hr]
    · rw [if_neg hc]
      obtain ⟨k, hk, hk2⟩ : ∃ k, kmin lf 38 = nI k ∧ (lf.toInt ≤ 38 ∧ (k : Int) = lf.toInt ∨ 38 < lf.toInt ∧ k = 38) := by
        have hm := kz_kmin lf 38
        rw [c38] at hm
        refine ⟨(kmin lf 38).toInt.toNat, kz_nIof ?_, ?_⟩
        · rw [hm]
          split <;> omega
        · rw [hm]
          split <;> omega
      have p1 : 2 ^ k ≤ 2 ^ 38 := Nat.pow_le_pow_right (by decide) (by omega)
      have p2 : r * 2 ^ k ≤ 16777215 * 2 ^ 38 := Nat.mul_le_mul (by omega) p1
      have hml := Nat.mod_lt (r * 2 ^ k) (show 0 < n by omega)
      have he : (lf + (-38)).toInt = lf.toInt - 38 := by
        rw [px_iadd (by omega) (by omega), cm]
        omega
      rw [hk, wb_shl _ (by omega), pk_lRem (by omega) (by omega) (by omega), ih _ _ hml (by omega) (by omega) (by omega) (by omega), he, kz_mm, Nat.mul_assoc, ← Nat.pow_add, show k + (lf.toInt - 38).toNat = lf.toInt.toNat by omega]
set_option maxHeartbeats 4000000 in
theorem kz_l87 {p : Int64} (s t : Bool) {a b n : Nat} (ha : a ≤ 2139095040) (hb : b ≤ 2139095040) (hn0 : n ≠ 0) (hn : n < 16777216) (hp : p = fz_plc s a) : ∀ (fuel r : Nat) (kk : Int32), r < n → kk.toInt ≤ 1000 → -1000 ≤ kk.toInt → kk.toInt < fuel → 1 ≤ fuel → kX8_restOf_l87 fuel p (fz_plc t b) (lN n) (lN r) kk = fz_plc s (fz (r * 2 ^ kk.toInt.toNat % n) (fz_pw b) false) := by
  have ha2 : a < 2147483648 := by omega
  have hb2 : b < 2147483648 := by omega
  have pb := fz_pwB b
  have cm : (-1 : Int32).toInt = -1 := by decide
  subst hp
  intro fuel
  induction fuel with
  | zero => intro r kk _ _ _ _ h; exact absurd h (by omega)
  | succ fuel ih =>
    intro r kk hr h1 h2 hf _
    rw [kX8_restOf_l87_S]
    by_cases hc : kk.toInt ≤ 0
    · have e7 : kX8_restOf_l87_120_z7 (fz_plc s a) (fz_plc t b) (lN n) (lN r) kk = fz_bI s := by
        unfold kX8_restOf_l87_120_z7
        rw [kz_neg1 s ha2]
      have hpw := kz_powP t hb2
      rw [if_pos hc, show kk.toInt.toNat = 0 by omega, Nat.pow_zero, Nat.mul_one, Nat.mod_eq_of_lt hr, e7]
      exact (kz_pack s false (by omega) (by omega)).trans (by rw [hpw])
    · have hml := Nat.mod_lt (r * 2) (show 0 < n by omega)
      have e101 : kX8_restOf_l87_s101 (fz_plc s a) (fz_plc t b) (lN n) (lN r) kk = lN (r * 2 % n) := by
        unfold kX8_restOf_l87_s101
        rw [show (2 : Int64) = lN 2 from rfl, lN_mul, pk_lRem (by omega) (by omega) (by omega)]
      have he : (kk + (-1)).toInt = kk.toInt - 1 := by
        rw [px_iadd (by omega) (by omega), cm]
        omega
      rw [if_neg hc, e101, ih _ _ hml (by omega) (by omega) (by omega) (by omega), he, kz_mm, Nat.mul_assoc, ← Nat.pow_succ', show Nat.succ (kk.toInt - 1).toNat = kk.toInt.toNat by omega]
theorem fz_mono {a b : Nat} (h : b ≤ a) : fz_pw b ≤ fz_pw a := by
  unfold fz_pw
  split <;> split <;> omega
theorem fz_mono2 {a b : Nat} (h : a < b) (hp : fz_pw b ≤ fz_pw a) : fz_pw a = fz_pw b ∧ fz_dg a < fz_dg b := by
  unfold fz_pw at hp ⊢
  unfold fz_dg
  by_cases ha : a < 8388608
  · by_cases hb : b < 8388608
    · rw [if_pos ha, if_pos hb, if_pos ha, if_pos hb]
      exact ⟨rfl, h⟩
    · rw [if_pos ha, if_neg hb] at hp
      rw [if_pos ha, if_neg hb, if_pos ha, if_neg hb]
      omega
  · have hb : ¬ b < 8388608 := by omega
    rw [if_neg ha, if_neg hb] at hp
    rw [if_neg ha, if_neg hb, if_neg ha, if_neg hb]
    omega
set_option maxHeartbeats 4000000 in
theorem kv_rem {a b : Nat} (s t : Bool) (ha : a ≤ 2139095040) (hb : b ≤ 2139095040) : VR (kX0_remainder (fz_enc s a) (fz_enc t b)) (kX8_restOf (fz_plc s a) (fz_plc t b)) := by
  have ha2 : a < 2147483648 := by omega
  have hb2 : b < 2147483648 := by omega
  have da := fz_dgB a
  have db := fz_dgB b
  have pa := fz_pwB a
  have pb := fz_pwB b
  have nA := kz_plc9 s ha2
  have nB := kz_plc9 t hb2
  have hsy : (kX2_significand (fz_enc t b) : Int64).toInt = ((fz_dg b : Nat) : Int) := by rw [kz_sig t hb2, pk_lT (by omega)]
  have hw1 := kz_powP s ha2
  have hw2 := kz_powP t hb2
  unfold kX0_remainder kX8_restOf
  rw [fz_encMI s ha2, fz_encMI t hb2, hsy, if_neg nA, if_neg nB, hw1, hw2]
  by_cases ai : a = 2139095040
  · rw [kz_inf1 s ai, if_pos (by omega), if_neg (by decide)]
    exact VR.none
  · rw [kz_inf0 s ha2 ai, if_neg (by omega), if_pos rfl]
    by_cases b0 : b = 0
    · rw [kz_zer1 t b0, if_pos (by rw [b0]; rfl), if_neg (by decide)]
      exact VR.none
    · have hdb0 : fz_dg b ≠ 0 := fun q => b0 (db.2.2.2 q)
      rw [kz_zer0 t hb2 b0, if_neg (by omega), if_pos rfl]
      have hml := Nat.mod_lt (fz_dg a) (show 0 < fz_dg b by omega)
      have hR : fz_pw b ≤ fz_pw a → kX8_restOf_l87 2147483650 (fz_plc s a) (fz_plc t b) (kX8_digits (fz_plc t b)) (kX8_restOf_s74 (fz_plc s a) (fz_plc t b)) (kX8_restOf_s85 (fz_plc s a) (fz_plc t b)) = fz_plc s (fz (fz_dg a % fz_dg b * 2 ^ (fz_pw a - fz_pw b).toNat % fz_dg b) (fz_pw b) false) := by
        intro h
        have e85 : (kX8_restOf_s85 (fz_plc s a) (fz_plc t b)).toInt = fz_pw a - fz_pw b := by
          unfold kX8_restOf_s85
          rw [kz_powS s t ha hb]
        have e74 : kX8_restOf_s74 (fz_plc s a) (fz_plc t b) = lN (fz_dg a % fz_dg b) := by
          unfold kX8_restOf_s74
          rw [kz_digP s ha2, kz_digP t hb2, pk_lRem (by omega) (by omega) (by omega)]
        rw [e74, kz_digP t hb2, kz_l87 s t ha hb hdb0 db.1 rfl 2147483650 _ _ hml (by omega) (by omega) (by omega) (by omega), e85]
      by_cases hab : a < b
      · rw [if_neg (by omega)]
        by_cases bi : b = 2139095040
        · rw [kz_inf1 t bi, if_neg (by decide)]
          exact VR.num s ha
        · rw [kz_inf0 t hb2 bi, if_pos rfl]
          by_cases a0 : a = 0
          · rw [kz_zer1 s a0, if_neg (by decide)]
            exact VR.num s ha
          · rw [kz_zer0 s ha2 a0, if_pos rfl]
            by_cases hp : fz_pw b ≤ fz_pw a
            · rw [if_pos hp, hR hp]
              obtain ⟨q1, q2⟩ := fz_mono2 hab hp
              rw [Nat.mod_eq_of_lt q2, show (fz_pw a - fz_pw b).toNat = 0 by omega, Nat.pow_zero, Nat.mul_one, Nat.mod_eq_of_lt q2, ← q1, fz_exact false ha]
              exact VR.num s ha
            · rw [if_neg hp]
              exact VR.num s ha
      · have hp := fz_mono (show b ≤ a by omega)
        have hd := kz_expS s t ha hb
        have hx2 := kz_exp t hb2
        rw [if_pos (by omega), kz_inf0 t hb2 (by omega), if_pos rfl, kz_zer0 s ha2 (by omega), if_pos rfl, if_pos hp, hR hp, kz_sig s ha2, kz_sig t hb2, pk_lRem (by omega) (by omega) (by omega), kz_l59 _ _ _ hdb0 db.1 2147483649 _ _ hml (by omega) (by omega) (by omega) (by omega), hd, fz_encS s ha2, kz_nearest _ (by have := Nat.mod_lt (fz_dg a % fz_dg b * 2 ^ (fz_pw a - fz_pw b).toNat) (show 0 < fz_dg b by omega); omega) (by omega), hx2]
        exact VR.num s (fz_B _ _ _)
/-! roots -/
theorem fz_sqU {Q r r' : Nat} (h1 : r * r ≤ Q) (h2 : Q < (r + 1) * (r + 1)) (h3 : r' * r' ≤ Q) (h4 : Q < (r' + 1) * (r' + 1)) : r = r' := by
  rcases Nat.lt_trichotomy r r' with h | h | h
  · have := Nat.mul_le_mul (show r + 1 ≤ r' from h) (show r + 1 ≤ r' from h)
    omega
  · exact h
  · have := Nat.mul_le_mul (show r' + 1 ≤ r from h) (show r' + 1 ≤ r from h)
    omega
def fz_bit (n : Nat) : Nat := if n = 0 then 0 else 2 ^ (n - 1)
theorem kz_sar1 {n : Nat} (h : n ≤ 40) : lN (fz_bit n) >>> ((1 : Int32).toInt64 &&& 63) = lN (fz_bit (n - 1)) := by
  have hp : fz_bit n < 4611686018427387904 := by
    unfold fz_bit
    split
    · omega
    · have : 2 ^ (n - 1) ≤ 2 ^ 40 := Nat.pow_le_pow_right (by decide) (by omega)
      omega
  rw [show (1 : Int32) = nI 1 from rfl, kz_sar hp (by decide)]
  apply kz_lNc
  unfold fz_bit
  cases n with
  | zero => rfl
  | succ i =>
    cases i with
    | zero => rfl
    | succ j =>
      rw [if_neg (by omega), if_neg (by omega), Nat.add_sub_cancel, Nat.add_sub_cancel, Nat.pow_succ, Nat.pow_one, Nat.mul_div_cancel _ (by decide)]
def fz_SI (Q r n : Nat) : Prop := r * r ≤ Q ∧ Q < (r + 2 ^ n) * (r + 2 ^ n) ∧ r + 2 ^ n ≤ 2147483648
theorem fz_SIstep {Q r k : Nat} (h : fz_SI Q r (k + 1)) : ((r + 2 ^ k) * (r + 2 ^ k) ≤ Q → fz_SI Q (r + 2 ^ k) k) ∧ (¬ (r + 2 ^ k) * (r + 2 ^ k) ≤ Q → fz_SI Q r k) := by
  obtain ⟨h1, h2, h3⟩ := h
  have e : r + 2 ^ (k + 1) = r + 2 ^ k + 2 ^ k := by
    rw [Nat.pow_succ]
    omega
  have hp := Nat.two_pow_pos k
  refine ⟨fun q => ⟨q, by rw [← e]; exact h2, by omega⟩, fun q => ⟨h1, by omega, by omega⟩⟩
theorem kz_lsq {n : Nat} (h : n ≤ 2147483648) : (lN n * lN n).toInt = ((n * n : Nat) : Int) := by
  have := Nat.mul_le_mul h h
  rw [lN_mul, pk_lT (by omega)]
set_option maxHeartbeats 4000000 in
theorem kz_l7 {Q : Nat} (hQ : Q < 4611686018427387904) : ∀ (n fuel r : Nat), n ≤ 31 → n < fuel → fz_SI Q r n → ∃ r', kX0_rootDown_l7 fuel (lN Q) (lN r) (lN (fz_bit n)) = lN r' ∧ fz_SI Q r' 0 := by
  intro n
  induction n with
  | zero =>
    intro fuel r _ hf hs
    obtain ⟨f, rfl⟩ : ∃ f, fuel = f + 1 := ⟨fuel - 1, by omega⟩
    rw [kX0_rootDown_l7_S, if_pos (by decide)]
    exact ⟨r, rfl, hs⟩
  | succ k ih =>
    intro fuel r hk hf hs
    obtain ⟨f, rfl⟩ : ∃ f, fuel = f + 1 := ⟨fuel - 1, by omega⟩
    have hb : fz_bit (k + 1) = 2 ^ k := by
      unfold fz_bit
      rw [if_neg (by omega), Nat.add_sub_cancel]
    have hp := Nat.two_pow_pos k
    have hp2 : 2 ^ k ≤ 2 ^ 30 := Nat.pow_le_pow_right (by decide) (by omega)
    have h3 : r + 2 ^ k ≤ 2147483648 := by
      have := hs.2.2
      rw [Nat.pow_succ] at this
      omega
    rw [kX0_rootDown_l7_S, kz_sar1 (by omega), Nat.add_sub_cancel, hb, lN_add, kz_lsq h3, pk_lT (by omega), pk_lT (by omega), if_neg (by omega)]
    by_cases hq : (r + 2 ^ k) * (r + 2 ^ k) ≤ Q
    · rw [if_neg (by omega)]
      exact ih f _ (by omega) (by omega) ((fz_SIstep hs).1 hq)
    · rw [if_pos (by omega)]
      exact ih f _ (by omega) (by omega) ((fz_SIstep hs).2 hq)
set_option maxHeartbeats 4000000 in
theorem kz_l106 (g : Int64) {Q : Nat} {ee : Int32} (hQ : Q < 4611686018427387904) : ∀ (n fuel r : Nat), n ≤ 31 → n < fuel → fz_SI Q r n → ∃ r', kX8_rootOf_l106 fuel g (lN Q) ee (lN r) (lN (fz_bit n)) = kX8_pack 0 (lN r') (ee / 2) (fz_bI (decide (¬ r' * r' = Q))) ∧ fz_SI Q r' 0 := by
  intro n
  induction n with
  | zero =>
    intro fuel r _ hf hs
    obtain ⟨f, rfl⟩ : ∃ f, fuel = f + 1 := ⟨fuel - 1, by omega⟩
    refine ⟨r, ?_, hs⟩
    rw [kX8_rootOf_l106_S, if_pos (by decide)]
    have e11 : kX8_rootOf_l106_171_z11 g (lN Q) ee (lN r) (lN (fz_bit 0)) = fz_bI (decide (¬ r * r = Q)) := by
      unfold kX8_rootOf_l106_171_z11
      rw [kz_lsq (by have := hs.2.2; omega), pk_lT (by omega)]
      by_cases h : r * r = Q
      · rw [if_pos (by omega), decide_eq_false (fun q => q h)]
        rfl
      · rw [if_neg (by omega), decide_eq_true h]
        rfl
    rw [e11]
  | succ k ih =>
    intro fuel r hk hf hs
    obtain ⟨f, rfl⟩ : ∃ f, fuel = f + 1 := ⟨fuel - 1, by omega⟩
    have hb : fz_bit (k + 1) = 2 ^ k := by
      unfold fz_bit
      rw [if_neg (by omega), Nat.add_sub_cancel]
    have hp := Nat.two_pow_pos k
    have hp2 : 2 ^ k ≤ 2 ^ 30 := Nat.pow_le_pow_right (by decide) (by omega)
    have h3 : r + 2 ^ k ≤ 2147483648 := by
      have := hs.2.2
      rw [Nat.pow_succ] at this
      omega
    rw [kX8_rootOf_l106_S, kz_sar1 (by omega), Nat.add_sub_cancel]
    unfold kX8_rootOf_l106_137_z6
    rw [hb, lN_add, kz_lsq h3, pk_lT (by omega), pk_lT (by omega), if_neg (by omega)]
    by_cases hq : (r + 2 ^ k) * (r + 2 ^ k) ≤ Q
    · rw [if_neg (by omega), lN_add]
      exact ih f _ (by omega) (by omega) ((fz_SIstep hs).1 hq)
    · rw [if_pos (by omega), show (0 : Int64) = lN 0 from rfl, lN_add, Nat.add_zero]
      exact ih f _ (by omega) (by omega) ((fz_SIstep hs).2 hq)
