theorem kz_mo0 (B : Nat) : fz_mo B 0 = false := decide_eq_false (fun q => q (Nat.mod_one B))
theorem kz_bNe {s t : Bool} (h : ¬ s = t) : ¬ (fz_bI s).toInt = (fz_bI t).toInt := by
  revert h
  cases s <;> cases t <;> decide
set_option maxHeartbeats 4000000 in
theorem kv_plusR {g q : Int64} {A B : Nat} {s t : Bool} (hA : A < 2139095040) (hB : B < 2139095040) (hg : kX8_plus_89_z65 g q = fz_plc s A) (hq : kX8_plus_107_z76 g q = fz_plc t B) (hp : fz_pw B ≤ fz_pw A) :
    (fz_pw A - fz_pw B ≤ 30 → (if (kX8_plus_244_z127 g q : Int32).toInt = (kX8_plus_256_z132 g q : Int32).toInt then kX8_pack (kX8_plus_244_z127 g q) (kX8_plus_s146 g q + kX8_plus_184_z101 g q) (kX8_plus_s156 g q) (kX8_plus_230_z122 g q) else (if (kX8_plus_s300 g q : Int64).toInt = 0 then (if (kX8_plus_230_z122 g q : Int32).toInt = 0 then 0 else kX8_plus_368_z160 g q) else kX8_plus_368_z160 g q)) = fz_plc (fz_sum s (fz_dg A * 2 ^ (fz_pw A - fz_pw B).toNat) t (fz_dg B) (fz_pw B)).1 (fz_sum s (fz_dg A * 2 ^ (fz_pw A - fz_pw B).toNat) t (fz_dg B) (fz_pw B)).2)
    ∧ (30 < fz_pw A - fz_pw B → (if (kX8_plus_244_z127 g q : Int32).toInt = (kX8_plus_256_z132 g q : Int32).toInt then kX8_pack (kX8_plus_244_z127 g q) (kX8_plus_s146 g q + kX8_plus_184_z101 g q) (kX8_plus_s156 g q) (kX8_plus_230_z122 g q) else (if (kX8_plus_s300 g q : Int64).toInt = 0 then (if (kX8_plus_230_z122 g q : Int32).toInt = 0 then 0 else kX8_plus_368_z160 g q) else kX8_plus_368_z160 g q)) = fz_plc s A) := by
  obtain ⟨up, down, hud, e146, e156, e101, e122, e127, e132⟩ := kv_plusP hA hB hg hq hp
  obtain ⟨S, hSe⟩ : ∃ S, fz_dg B / 2 ^ down = S := ⟨_, rfl⟩
  rw [hSe] at e101
  have hS : S ≤ fz_dg B := by rw [← hSe]; exact Nat.div_le_self _ _
  have pa := fz_pwB A
  have pb := fz_pwB B
  have da := fz_dgB A
  have db := fz_dgB B
  have hup : up ≤ 38 := by omega
  have pup : 2 ^ up ≤ 2 ^ 38 := Nat.pow_le_pow_right (by decide) hup
  have hM : fz_dg A * 2 ^ up ≤ 16777215 * 2 ^ 38 := Nat.mul_le_mul (by omega) pup
  have hfar : 30 < fz_pw A - fz_pw B → 8388608 ≤ fz_dg A ∧ 31 ≤ up ∧ S + 1 < 2 ^ (up - 2) ∧ 8388608 * 2 ^ 31 ≤ fz_dg A * 2 ^ up := by
    intro h
    have h1 : 8388608 ≤ fz_dg A := da.2.1 (pa.2.2.2.2 (by omega))
    have h2 : 31 ≤ up := by omega
    have h3 : 2 ^ 29 ≤ 2 ^ (up - 2) := Nat.pow_le_pow_right (by decide) (by omega)
    have h4 : 2 ^ 31 ≤ 2 ^ up := Nat.pow_le_pow_right (by decide) h2
    exact ⟨h1, h2, by omega, Nat.mul_le_mul h1 h4⟩
  have hval := fz_valN A
  have hnear : fz_pw A - fz_pw B ≤ 30 → up = (fz_pw A - fz_pw B).toNat ∧ down = 0 ∧ fz_pw A - up = fz_pw B := by
    intro h
    omega
  by_cases hst : s = t
  · have hE : (if (kX8_plus_244_z127 g q : Int32).toInt = (kX8_plus_256_z132 g q : Int32).toInt then kX8_pack (kX8_plus_244_z127 g q) (kX8_plus_s146 g q + kX8_plus_184_z101 g q) (kX8_plus_s156 g q) (kX8_plus_230_z122 g q) else (if (kX8_plus_s300 g q : Int64).toInt = 0 then (if (kX8_plus_230_z122 g q : Int32).toInt = 0 then 0 else kX8_plus_368_z160 g q) else kX8_plus_368_z160 g q)) = fz_plc s (fz (fz_dg A * 2 ^ up + S) (fz_pw A - up) (fz_mo (fz_dg B) down)) := by
      rw [e127, e132, hst, if_pos rfl, e146, e101, e122, lN_add, kz_pack _ _ (by omega) (by omega), e156]
    rw [hE]
    refine ⟨fun h => ?_, fun h => ?_⟩
    · obtain ⟨q1, q2, q3⟩ := hnear h
      unfold fz_sum
      have hS0 : S = fz_dg B := by rw [← hSe, q2, Nat.pow_zero, Nat.div_one]
      rw [if_pos hst, q3, q2, kz_mo0, hS0, q1]
    · obtain ⟨q1, q2, q3, q4⟩ := hfar h
      rw [fz_farP _ q1 da.1 (by omega) (by omega) (by omega) (by omega)]
      refine congrArg (fz_plc s) ?_
      rw [show fz_pw A - (up : Int) + (up : Int) + 149 = fz_pw A + 149 by omega]
      exact hval
  · have hne := kz_bNe hst
    rw [e127, e132, if_neg hne, e122]
    have e138 : kX8_plus_299_z138 g q = lN (if fz_mo (fz_dg B) down = true then 1 else 0) := by
      unfold kX8_plus_299_z138
      rw [e122]
      cases fz_mo (fz_dg B) down <;> decide
    have ht1 : (if fz_mo (fz_dg B) down = true then 1 else 0) ≤ 1 := by split <;> omega
    have hT0 : ∀ (x : Nat), x = (if fz_mo (fz_dg B) down = true then 1 else 0) → (kX8_plus_s300 g q).toInt = ((fz_dg A * 2 ^ up : Nat) : Int) - ((S : Nat) : Int) - (x : Int) := by
      intro x hx
      unfold kX8_plus_s300
      rw [e146, e101, e138, ← hx]
      have l1 : (lN (fz_dg A * 2 ^ up)).toInt = ((fz_dg A * 2 ^ up : Nat) : Int) := pk_lT (by omega)
      have l2 : (lN (S)).toInt = ((S : Nat) : Int) := pk_lT (by omega)
      have l3 : (lN x).toInt = (x : Int) := pk_lT (by omega)
      have l4 : (lN (fz_dg A * 2 ^ up) - lN (S)).toInt = ((fz_dg A * 2 ^ up : Nat) : Int) - ((S : Nat) : Int) := by
        rw [px_lsub (by omega) (by omega), l1, l2]
      rw [px_lsub (by omega) (by omega), l4, l3]
    refine ⟨fun h => ?_, fun h => ?_⟩
    · obtain ⟨q1, q2, q3⟩ := hnear h
      have hT := hT0 0 (by rw [q2, kz_mo0]; rfl)
      have hS0 : S = fz_dg B := by rw [← hSe, q2, Nat.pow_zero, Nat.div_one]
      rw [hS0] at hT
      unfold fz_sum
      rw [if_neg hst, ← q1]
      by_cases h1 : fz_dg A * 2 ^ up = fz_dg B
      · rw [if_pos (by omega), if_pos (by rw [q2, kz_mo0]; decide), if_pos h1]
        rfl
      · rw [if_neg (by omega), if_neg h1]
        unfold kX8_plus_368_z160
        by_cases h2 : fz_dg B < fz_dg A * 2 ^ up
        · have e300 : kX8_plus_s300 g q = lN (fz_dg A * 2 ^ up - fz_dg B) := kz_lNeq (by omega)
          rw [if_pos (by omega), if_pos h2, e127, e300, e122, q2, kz_mo0, kz_pack _ _ (by omega) (by omega), e156, q3]
        · have e300 : -(kX8_plus_s300 g q) = lN (fz_dg B - fz_dg A * 2 ^ up) := kz_lNeq (by rw [kz_negl (by omega)]; omega)
          rw [if_neg (by omega), if_neg h2, e132, e300]
          exact (kz_pack t false (by omega) (by omega)).trans (by rw [e156, q3])
    · obtain ⟨q1, q2, q3, q4⟩ := hfar h
      generalize hx : (if fz_mo (fz_dg B) down = true then 1 else 0) = x at ht1
      have hT := hT0 x hx.symm
      rw [if_neg (by omega)]
      unfold kX8_plus_368_z160
      have e300 : kX8_plus_s300 g q = lN (fz_dg A * 2 ^ up - (S + x)) := kz_lNeq (by omega)
      rw [if_pos (by omega), e127, e300, e122, kz_pack _ _ (by omega) (by omega), e156]
      refine congrArg (fz_plc s) ?_
      have hv : (fz_pw A - (up : Int) + (up : Int) + 149).toNat * 8388608 + fz_dg A = A := by
        rw [show fz_pw A - (up : Int) + (up : Int) + 149 = fz_pw A + 149 by omega]
        exact hval
      by_cases h0 : S + x = 0
      · have hP := fz_farP (A := fz_dg A) (k := up) (t := 0) (e := fz_pw A - up) (fz_mo (fz_dg B) down) q1 da.1 (by omega) (Nat.two_pow_pos _) (by omega) (by omega)
        rw [Nat.add_zero] at hP
        rw [h0, Nat.sub_zero, hP]
        exact hv
      · rw [fz_farM _ q1 da.1 (by omega) (by omega) (by omega) (by omega) (by omega)]
        exact hv
theorem kz_kabs {x : Int32} (h : -2147483648 < x.toInt) : (kabs x).toInt = if 0 ≤ x.toInt then x.toInt else -x.toInt := by
  have c0 : (0 : Int32).toInt = 0 := by decide
  have hr := px_rng x
  unfold kabs
  by_cases h0 : 0 ≤ x
  · rw [if_pos h0, if_pos (by have := Int32.le_iff_toInt_le.mp h0; omega)]
  · rw [if_neg h0, if_neg (fun q => h0 (Int32.le_iff_toInt_le.mpr (by omega))), px_isub (by omega) (by omega), c0]
    omega
theorem kz_kabsl {x : Int64} (h : -9223372036854775808 < x.toInt) : (kabsl x).toInt = if 0 < x.toInt then x.toInt else -x.toInt := by
  have c0 : (0 : Int64).toInt = 0 := by decide
  unfold kabsl
  by_cases h0 : 0 < x
  · rw [if_pos h0, if_pos (by have := Int64.lt_iff_toInt_lt.mp h0; omega)]
  · rw [if_neg h0, if_neg (fun q => h0 (Int64.lt_iff_toInt_lt.mpr (by omega))), kz_negl h]
theorem kz_sgnC {a : Nat} (s : Bool) (h : a < 2147483648) (x : Int64) : (if 0 ≤ (fz_enc s a).toInt then x else -x) = if s = true then -x else x := by
  have hi := fz_encI s h
  cases s with
  | false => rw [if_pos (by rw [hi]; exact Int.natCast_nonneg a), if_neg (by decide)]
  | true =>
    rw [if_pos rfl] at hi
    rw [if_neg (by omega), if_pos rfl]
theorem kz_sgI (s : Bool) (n : Nat) (h : n < 4611686018427387904) : (if s = true then -(lN n) else lN n : Int64).toInt = if s = true then -(n : Int) else n := by
  have l1 : (lN n).toInt = n := pk_lT (by omega)
  cases s with
  | false => exact l1
  | true =>
    show (-(lN n)).toInt = -(n : Int)
    rw [kz_negl (by omega), l1]
set_option maxHeartbeats 4000000 in
theorem kv_sumC {x y : Int32} {A B : Nat} {s t u : Bool} (hA : A < 2139095040) (hB : B < 2139095040) (hx : kX0_sum_60_z12 x y = fz_enc s A) (hy : kX0_sum_70_z17 x y = fz_enc t B) (hp : fz_pw B ≤ fz_pw A) (hd : (kX0_sum_s50 x y).toInt = fz_pw A - fz_pw B ∨ (kX0_sum_s50 x y).toInt = fz_pw B - fz_pw A) (hu : (x &&& y) &&& (-2147483648) = fz_sg u) (hu1 : u = (s && t)) :
    (fz_pw A - fz_pw B ≤ 30 → (if (kabs (kX0_sum_s50 x y) : Int32).toInt ≤ 30 then (if (kX0_sum_s129 x y : Int64).toInt = 0 then ((x &&& y) &&& (-2147483648)) else (kX2_nearest (kX0_sum_158_z40 x y) (kabsl (kX0_sum_s129 x y)) (kX2_exponent (kX0_sum_70_z17 x y)))) else (kX0_sum_60_z12 x y)) = fz_enc (fz_sum s (fz_dg A * 2 ^ (fz_pw A - fz_pw B).toNat) t (fz_dg B) (fz_pw B)).1 (fz_sum s (fz_dg A * 2 ^ (fz_pw A - fz_pw B).toNat) t (fz_dg B) (fz_pw B)).2)
    ∧ (30 < fz_pw A - fz_pw B → (if (kabs (kX0_sum_s50 x y) : Int32).toInt ≤ 30 then (if (kX0_sum_s129 x y : Int64).toInt = 0 then ((x &&& y) &&& (-2147483648)) else (kX2_nearest (kX0_sum_158_z40 x y) (kabsl (kX0_sum_s129 x y)) (kX2_exponent (kX0_sum_70_z17 x y)))) else (kX0_sum_60_z12 x y)) = fz_enc s A) := by
  have hA2 : A < 2147483648 := by omega
  have hB2 : B < 2147483648 := by omega
  have pa := fz_pwB A
  have pb := fz_pwB B
  have da := fz_dgB A
  have db := fz_dgB B
  have eabs : (kabs (kX0_sum_s50 x y)).toInt = fz_pw A - fz_pw B := by
    rw [kz_kabs (by omega)]
    split <;> omega
  rw [eabs]
  refine ⟨fun h => ?_, fun h => ?_⟩
  · rw [if_pos h]
    generalize hD : (fz_pw A - fz_pw B).toNat = D
    have eD : kabs (kX0_sum_s50 x y) = nI D := kz_nIeq (by omega)
    have pD : 2 ^ D ≤ 2 ^ 30 := Nat.pow_le_pow_right (by decide) (by omega)
    have hM : fz_dg A * 2 ^ D ≤ 16777215 * 2 ^ 30 := Nat.mul_le_mul (by omega) pD
    generalize hMe : fz_dg A * 2 ^ D = M at hM ⊢
    have e129 : (kX0_sum_s129 x y).toInt = (if s = true then -(M : Int) else (M : Int)) + (if t = true then -(fz_dg B : Int) else (fz_dg B : Int)) := by
      unfold kX0_sum_s129 kX0_sum_115_z29 kX0_sum_128_z34 kX0_sum_s94 kX0_sum_s101
      rw [hx, hy, kz_sig s hA2, kz_sig t hB2, eD, wb_shl _ (by omega), hMe, kz_sgnC s hA2, kz_sgnC t hB2]
      have l1 := kz_sgI s M (by omega)
      have l2 := kz_sgI t (fz_dg B) (by omega)
      rw [px_ladd (by rw [l1, l2]; cases s <;> cases t <;> simp <;> omega) (by rw [l1, l2]; cases s <;> cases t <;> simp <;> omega), l1, l2]
    have hexp : (kX2_exponent (kX0_sum_70_z17 x y)).toInt = fz_pw B := by rw [hy, kz_exp t hB2]
    have fin : ∀ (z : Bool) (n : Nat), n < 4611686018427387904 → n ≠ 0 → (kX0_sum_s129 x y).toInt = (if z = true then -(n : Int) else (n : Int)) → (if (kX0_sum_s129 x y : Int64).toInt = 0 then ((x &&& y) &&& (-2147483648)) else (kX2_nearest (kX0_sum_158_z40 x y) (kabsl (kX0_sum_s129 x y)) (kX2_exponent (kX0_sum_70_z17 x y)))) = fz_enc z (fz n (fz_pw B) false) := by
      intro z n hn h0 hz
      have hne : ¬ (kX0_sum_s129 x y).toInt = 0 := by
        rw [hz]
        cases z <;> simp <;> omega
      have e40 : kX0_sum_158_z40 x y = fz_sg z := by
        unfold kX0_sum_158_z40
        rw [hz]
        cases z with
        | false => rw [if_pos (by simp)]; rfl
        | true => rw [if_neg (by simp; omega)]; rfl
      have eab : kabsl (kX0_sum_s129 x y) = lN n := by
        apply kz_lNeq
        have hb : -9223372036854775808 < (kX0_sum_s129 x y).toInt := by
          rw [hz]
          cases z <;> simp <;> omega
        rw [kz_kabsl hb, hz]
        cases z <;> simp <;> omega
      rw [if_neg hne, e40, eab, kz_nearest _ (by omega) (by omega), hexp]
      rfl
    unfold fz_sum
    by_cases hst : s = t
    · rw [if_pos hst]
      subst hst
      by_cases h0 : M + fz_dg B = 0
      · rw [if_pos (by rw [e129]; cases s <;> simp <;> omega), hu, hu1, h0, fz_zero, Bool.and_self]
        exact fz_enc0 s
      · exact fin s _ (by omega) h0 (by rw [e129]; cases s <;> simp <;> omega)
    · rw [if_neg hst]
      by_cases h0 : M = fz_dg B
      · rw [if_pos (by rw [e129]; revert hst; cases s <;> cases t <;> simp <;> omega), if_pos h0, hu, hu1, show (s && t) = false by revert hst; cases s <;> cases t <;> simp]
        exact fz_enc0 false
      · rw [if_neg h0]
        by_cases h1 : fz_dg B < M
        · rw [if_pos h1]
          exact fin s _ (by omega) (by omega) (by rw [e129]; revert hst; cases s <;> cases t <;> simp <;> omega)
        · rw [if_neg h1]
          exact fin t _ (by omega) (by omega) (by rw [e129]; revert hst; cases s <;> cases t <;> simp <;> omega)
  · rw [if_neg (by omega), hx]
set_option maxHeartbeats 4000000 in
theorem kv_sum {a b : Nat} (s t : Bool) (ha : a ≤ 2139095040) (hb : b ≤ 2139095040) : VR (kX0_sum (fz_enc s a) (fz_enc t b)) (kX8_plus (fz_plc s a) (fz_plc t b)) := by
  have ha2 : a < 2147483648 := by omega
  have hb2 : b < 2147483648 := by omega
  have nA := kz_plc9 s ha2
  have nB := kz_plc9 t hb2
  unfold kX0_sum kX8_plus
  rw [fz_encMI s ha2, fz_encMI t hb2, if_neg nA, if_neg nB]
  by_cases h1 : a = 2139095040
  · have i1 := kz_inf1 s h1
    have hC : kX0_sum_29_z56 (fz_enc s a) (fz_enc t b) = if b = 2139095040 then (if s = t then fz_enc s a else 2143289344) else fz_enc s a := by
      unfold kX0_sum_29_z56 kX0_sum_29_z53
      rw [fz_encMI t hb2]
      by_cases h2 : b = 2139095040
      · rw [if_pos (show (b : Int) = 2139095040 by omega), if_pos h2, fz_encI s ha2, fz_encI t hb2]
        by_cases hst : s = t
        · subst hst
          rw [if_pos (by rw [h1, h2]), if_pos rfl]
        · rw [if_neg (by revert hst; cases s <;> cases t <;> simp <;> omega), if_neg hst]
      · rw [if_neg (show ¬ (b : Int) = 2139095040 by omega), if_neg h2]
    have hR : kX8_plus_72_z50 (fz_plc s a) (fz_plc t b) = if b = 2139095040 then (if s = t then fz_plc s a else 9000000000) else fz_plc s a := by
      unfold kX8_plus_72_z50 kX8_plus_72_z47 kX8_plus_72_z44 kX8_plus_72_z17
      simp only [i1, kz_t10, if_false]
      by_cases h2 : b = 2139095040
      · have i2 := kz_inf1 t h2
        simp only [i2, kz_t10, if_false]
        rw [if_pos h2, fz_plcI s ha2, fz_plcI t hb2]
        by_cases hst : s = t
        · subst hst
          rw [if_pos (by rw [h1, h2]), if_pos rfl]
        · rw [if_neg (by revert hst; cases s <;> cases t <;> simp <;> omega), if_neg hst]
      · have i2 := kz_inf0 t hb2 h2
        rw [i2, if_pos rfl, if_neg h2]
    rw [i1, if_pos (show (a : Int) = 2139095040 by omega), if_neg (show ¬ (1 : Int) = 0 by decide), hC, hR]
    by_cases h2 : b = 2139095040
    · rw [if_pos h2, if_pos h2]
      by_cases hst : s = t
      · rw [if_pos hst, if_pos hst]
        exact VR.num s ha
      · rw [if_neg hst, if_neg hst]
        exact VR.none
    · rw [if_neg h2, if_neg h2]
      exact VR.num s ha
  · have i1 := kz_inf0 s ha2 h1
    rw [i1, if_neg (by omega), if_pos rfl]
    by_cases h2 : b = 2139095040
    · have i2 := kz_inf1 t h2
      unfold kX8_plus_72_z50 kX8_plus_72_z17
      rw [i2, i1, if_pos (by omega), if_neg (by decide), if_pos rfl, if_pos rfl]
      exact VR.num t hb
    · have i2 := kz_inf0 t hb2 h2
      rw [i2, if_neg (by omega), if_pos rfl]
      have hd := kz_expS s t ha hb
      have hw1 := kz_powP s ha2
      have hw2 := kz_powP t hb2
      have hu := fz_encAS s t ha2 hb2
      by_cases hlt : fz_pw a < fz_pw b
      · have hx : kX0_sum_60_z12 (fz_enc s a) (fz_enc t b) = fz_enc t b := by
          unfold kX0_sum_60_z12 kX0_sum_s50
          rw [hd, if_pos (by omega)]
        have hy : kX0_sum_70_z17 (fz_enc s a) (fz_enc t b) = fz_enc s a := by
          unfold kX0_sum_70_z17 kX0_sum_s50
          rw [hd, if_pos (by omega)]
        have hg : kX8_plus_89_z65 (fz_plc s a) (fz_plc t b) = fz_plc t b := by
          unfold kX8_plus_89_z65
          rw [hw1, hw2, if_pos hlt]
        have hq : kX8_plus_107_z76 (fz_plc s a) (fz_plc t b) = fz_plc s a := by
          unfold kX8_plus_107_z76
          rw [hw1, hw2, if_pos hlt]
        have C := kv_sumC (by omega) (by omega) hx hy (by omega) (Or.inr (by unfold kX0_sum_s50; exact hd)) hu (Bool.and_comm s t)
        have R := kv_plusR (by omega) (by omega) hg hq (by omega)
        by_cases h30 : fz_pw b - fz_pw a ≤ 30
        · rw [C.1 h30, R.1 h30]
          refine VR.num _ ?_
          unfold fz_sum
          split
          · exact fz_B _ _ _
          · split
            · exact Nat.zero_le _
            · split <;> exact fz_B _ _ _
        · rw [C.2 (by omega), R.2 (by omega)]
          exact VR.num t hb
      · have hx : kX0_sum_60_z12 (fz_enc s a) (fz_enc t b) = fz_enc s a := by
          unfold kX0_sum_60_z12 kX0_sum_s50
          rw [hd, if_neg (by omega)]
        have hy : kX0_sum_70_z17 (fz_enc s a) (fz_enc t b) = fz_enc t b := by
          unfold kX0_sum_70_z17 kX0_sum_s50
          rw [hd, if_neg (by omega)]
        have hg : kX8_plus_89_z65 (fz_plc s a) (fz_plc t b) = fz_plc s a := by
          unfold kX8_plus_89_z65
          rw [hw1, hw2, if_neg hlt]
        have hq : kX8_plus_107_z76 (fz_plc s a) (fz_plc t b) = fz_plc t b := by
          unfold kX8_plus_107_z76
          rw [hw1, hw2, if_neg hlt]
        have C := kv_sumC (by omega) (by omega) hx hy (by omega) (Or.inl (by unfold kX0_sum_s50; exact hd)) hu rfl
        have R := kv_plusR (by omega) (by omega) hg hq (by omega)
        by_cases h30 : fz_pw a - fz_pw b ≤ 30
        · rw [C.1 h30, R.1 h30]
          refine VR.num _ ?_
          unfold fz_sum
          split
          · exact fz_B _ _ _
          · split
            · exact Nat.zero_le _
            · split <;> exact fz_B _ _ _
        · rw [C.2 (by omega), R.2 (by omega)]
          exact VR.num s ha
